/-! ships: where one can begin -/
theorem okB_e {row : Nat → Int32} {lim : Int32} {p m : Nat} : okB row lim p m = true ↔ m + p ≤ 1440 ∧ ∀ j, j < p → szI (row (m + j)) ≤ lim := by
  unfold okB
  rw [Bool.and_eq_true, decide_eq_true_eq, List.all_eq_true]
  constructor
  · intro z
    exact ⟨z.1, fun j hj => of_decide_eq_true (z.2 j (List.mem_range.mpr hj))⟩
  · intro z
    exact ⟨z.1, fun j hj => decide_eq_true (z.2 j (List.mem_range.mp hj))⟩
theorem bgF_skip {row : Nat → Int32} {lim : Int32} {p : Nat} : ∀ (d b : Nat), b + d ≤ 1440 → (∀ i, b ≤ i → i < b + d → okB row lim p i = false) → bgF row lim p (1440 - b) b = bgF row lim p (1440 - (b + d)) (b + d)
  | 0, b, _, _ => rfl
  | d + 1, b, hb, h => by
    have e : 1440 - b = (1440 - (b + 1)) + 1 := by omega
    rw [e, bgF, h b (by omega) (by omega), if_neg (by decide), bgF_skip d (b + 1) (by omega) (fun i h1 h2 => h i (by omega) (by omega)), show b + 1 + d = b + (d + 1) by omega]
theorem bgF_none {row : Nat → Int32} {lim : Int32} {p : Nat} : ∀ (r b : Nat), b + r = 1440 → (∀ i, b ≤ i → i < 1440 → okB row lim p i = false) → bgF row lim p r b = none
  | 0, _, _, _ => rfl
  | r + 1, b, hb, h => by
    rw [bgF, h b (by omega) (by omega), if_neg (by decide)]
    exact bgF_none r (b + 1) (by omega) (fun i h1 h2 => h i (by omega) h2)
theorem bgF_ge {row : Nat → Int32} {lim : Int32} {p : Nat} : ∀ (r b x : Nat), bgF row lim p r b = some x → b ≤ x ∧ x < b + r
  | 0, _, _, e => by cases e
  | r + 1, b, x, e => by
    rw [bgF] at e
    split at e
    · cases e; omega
    · have := bgF_ge r (b + 1) x e
      omega
theorem Rg_ships {K : Nat → Int32} (rg : Rg K) : ∃ n, n ≤ 6 ∧ K 186 = nI n ∧ ix (K 186) = n := by
  obtain ⟨k, hk, e⟩ := Rg_nat rg (j := 186) (b := 6) (by decide) (by decide) (by decide)
  exact ⟨k, hk, e, by rw [e]; exact nI_clamp (by omega)⟩
theorem Rg_one {K : Nat → Int32} (rg : Rg K) {n s : Nat} (en : K 186 = nI n) (hn : n ≤ 6) (hs : s < n) : (∃ r, r < 1440 ∧ K (103 + 3 * s) = nI r ∧ ix (K (103 + 3 * s)) = r) ∧ ∃ p, 1 ≤ p ∧ p ≤ 120 ∧ K (104 + 3 * s) = nI p ∧ ix (K (104 + 3 * s)) = p := by
  obtain ⟨r, hr, er⟩ := Rg_nat rg (j := 103 + 3 * s) (b := 1439) (by omega) (rj_ready s (by omega)) (by decide)
  obtain ⟨p, hp, ep⟩ := Rg_nat rg (j := 104 + 3 * s) (b := 120) (by omega) (rj_pass s (by omega)) (by decide)
  refine ⟨⟨r, by omega, er, by rw [er]; exact nI_clamp (by omega)⟩, p, ?_, hp, ep, by rw [ep]; exact nI_clamp (by omega)⟩
  have := rg.2.2 s (by omega) (by rw [en, nI_ltI (by omega) (by omega)]; exact hs)
  rw [ep] at this
  exact (nI_leI (a := 1) (by decide) (by omega)).mp this
theorem ks_eq {K : Nat → Int32} {j : Nat} (hj : j < 41 ∨ (103 ≤ j ∧ j < 121) ∨ j = 186) : mk pS K j = K j := by
  refine mk_at ?_ K
  unfold pS
  rcases hj with h | ⟨h1, h2⟩ | h
  · rw [decide_eq_true h]; rfl
  · rw [decide_eq_true h1, decide_eq_true h2]; simp
  · rw [decide_eq_true h]; simp
/-- the reference's -/
theorem p_beginsAt {τ : Nat → TF} {K : Nat → Int32} {h : Hp} (X : LX τ K h) {n s f : Nat} (en : K 186 = nI n) (hn : n ≤ 6) (hs : s < n) : s_Mod_beginsAt (nI s) (nI f) h = some (oI (bgA (td0 (tin τ K) (mk pF K)) (mk pS K) s f)) ∨ 3000 ≤ f := by
  by_cases hf : 3000 ≤ f
  · exact Or.inr hf
  refine Or.inl ?_
  obtain ⟨-, p, p1, p2, ep, ip⟩ := Rg_one X.1.2.1 en hn hs
  unfold bgA
  rw [ks_eq (j := 105 + 3 * s) (Or.inr (Or.inl (by omega))), ks_eq (j := 104 + 3 * s) (Or.inr (Or.inl (by omega))), ip]
  have i1 : (103 : Int32) + 3 * nI s + 1 = nI (104 + 3 * s) := by rw [show (103 : Int32) = nI 103 from rfl, show (3 : Int32) = nI 3 from rfl, nI_mul, nI_add, nI_1, show 103 + 3 * s + 1 = 104 + 3 * s by omega]
  have i2 : (103 : Int32) + 3 * nI s + 2 = nI (105 + 3 * s) := by rw [show (103 : Int32) = nI 103 from rfl, show (3 : Int32) = nI 3 from rfl, nI_mul, nI_add, show (2 : Int32) = nI 2 from rfl, nI_add, show 103 + 3 * s + 2 = 105 + 3 * s by omega]
  have key : ∀ (q m k : Nat), m + q = 1440 → k < p → k ≤ m → f ≤ m - k → (∀ j, j < k → szI (td0 (tin τ K) (mk pF K) (m - k + j)) ≤ K (105 + 3 * s)) → lp (fun q : Int32 × Int32 × Int32 => s_Mod_beginsAt_5 q.1 q.2.1 q.2.2 h) (nI s, nI k, nI m) = some (oI (bgF (td0 (tin τ K) (mk pF K)) (K (105 + 3 * s)) p (1440 - (m - k)) (m - k))) := by
    intro q
    induction q with
    | zero =>
      intro m k hm hk hkm hf2 hst
      have hm : m = 1440 := by omega
      subst hm
      rw [bgF_none (1440 - (1440 - k)) (1440 - k) (by omega) (fun i h1 h2 => by
        cases ho : okB (td0 (tin τ K) (mk pF K)) (K (105 + 3 * s)) p i
        · rfl
        · have := (okB_e.mp ho).1
          omega)]
      refine lp_inr ?_
      show s_Mod_beginsAt_5 (nI s) (nI k) (nI 1440) h = _
      unfold s_Mod_beginsAt_5
      rw [if_pos (show (1440 : Int32) ≤ nI 1440 by decide)]
      rfl
    | succ q ih =>
      intro m k hm hk hkm hf2 hst
      have e46 : ∀ s0 : Nat, s0 ≤ 120 → s_Mod_beginsAt_46 (nI s) (nI m) (nI s0) h = if s0 = p then some (.inr (nI m + 1 - nI s0)) else some (.inl (nI s, nI s0, nI (m + 1))) := fun s0 h0 => by
        unfold s_Mod_beginsAt_46
        rw [i1, ib_nI (by omega) (by decide), show ix (nI (104 + 3 * s)) = 104 + 3 * s from nI_clamp (by omega), X.1.1, ep, nI_1]
        by_cases z : s0 = p
        · rw [if_pos (by rw [z]), if_pos z]
        · rw [if_neg (by rw [nI_eq (by omega) (by omega)]; exact z), if_neg z]
      have stp : s_Mod_beginsAt_5 (nI s) (nI k) (nI m) h = if szI (td0 (tin τ K) (mk pF K) m) ≤ K (105 + 3 * s) then s_Mod_beginsAt_46 (nI s) (nI m) (nI (k + 1)) h else s_Mod_beginsAt_46 (nI s) (nI m) (nI 0) h := by
        unfold s_Mod_beginsAt_5
        rw [if_neg (by rw [show (1440 : Int32) = nI 1440 from rfl, nI_leI (by decide) (by omega)]; omega), ib_nI (by omega) (by decide), show ix (nI m) = m from nI_clamp (by omega), X.2.1 m (by omega), p_size, Option.bind_some, i2, ib_nI (by omega) (by decide), show ix (nI (105 + 3 * s)) = 105 + 3 * s from nI_clamp (by omega), X.1.1, nI_1]
        by_cases z : szI (td0 (tin τ K) (mk pF K) m) ≤ K (105 + 3 * s)
        · rw [if_neg (Int32.not_lt.mpr z), if_pos z]
        · rw [if_pos (Int32.not_le.mp z), if_neg z]
          rfl
      by_cases z : szI (td0 (tin τ K) (mk pF K) m) ≤ K (105 + 3 * s)
      · rw [if_pos z, e46 (k + 1) (by omega)] at stp
        by_cases w : k + 1 = p
        · rw [if_pos w] at stp
          rw [lp_inr stp, nI_1, nI_sub (by omega), show m + 1 - (k + 1) = m - k by omega]
          have ok : okB (td0 (tin τ K) (mk pF K)) (K (105 + 3 * s)) p (m - k) = true := okB_e.mpr ⟨by omega, fun j hj => by
            by_cases u : j = k
            · rw [u, show m - k + k = m by omega]; exact z
            · exact hst j (by omega)⟩
          rw [show 1440 - (m - k) = (1440 - (m - k) - 1) + 1 by omega, bgF, ok, if_pos rfl]
          rfl
        · rw [if_neg w] at stp
          rw [lp_inl stp]
          have := ih (m + 1) (k + 1) (by omega) (by omega) (by omega) (by omega) (fun j hj => by
            rw [show m + 1 - (k + 1) + j = m - k + j by omega]
            by_cases u : j = k
            · rw [u, show m - k + k = m by omega]; exact z
            · exact hst j (by omega))
          rw [show m + 1 - (k + 1) = m - k by omega] at this
          exact this
      · rw [if_neg z, e46 0 (by decide), if_neg (by omega)] at stp
        rw [lp_inl stp]
        have := ih (m + 1) 0 (by omega) (by omega) (by omega) (by omega) (fun j hj => absurd hj (by omega))
        rw [show m + 1 - 0 = m + 1 by omega] at this
        rw [this]
        have sk := bgF_skip (row := td0 (tin τ K) (mk pF K)) (lim := K (105 + 3 * s)) (p := p) (k + 1) (m - k) (by omega) (fun i h1 h2 => by
          cases ho : okB (td0 (tin τ K) (mk pF K)) (K (105 + 3 * s)) p i
          · rfl
          · have := (okB_e.mp ho).2 (m - i) (by omega)
            rw [show i + (m - i) = m by omega] at this
            exact absurd this z)
        rw [show m - k + (k + 1) = m + 1 by omega] at sk
        rw [sk]
  unfold s_Mod_beginsAt
  by_cases hf2 : f ≤ 1440
  · have := key (1440 - f) f 0 (by omega) (by omega) (by omega) (by omega) (fun j hj => absurd hj (by omega))
    rw [Nat.sub_zero] at this
    exact this
  · rw [show 1440 - f = 0 by omega]
    refine lp_inr ?_
    show s_Mod_beginsAt_5 (nI s) 0 (nI f) h = _
    unfold s_Mod_beginsAt_5
    rw [if_pos (by rw [show (1440 : Int32) = nI 1440 from rfl, nI_leI (by decide) (by omega)]; omega)]
    rfl
/-- the class's row of begins -/
def SBr (T : TF) (K : Nat → Int32) (n r : Nat) (g : Hp) : Prop := ∀ s m, s < n → m < 1440 → hI g r (1440 * s + m) = oI (bgA (td0 T (mk pF K)) (mk pS K) s m)
theorem p_findBegins {T : TF} {K : Nat → Int32} {h : Hp} {n s r : Nat} (st : StP K h 1) (rg : Rg K) (hrow : ∀ i, i < 1440 → hI h 57 i = td0 T (mk pF K) i) (en : K 186 = nI n) (hn : n ≤ 6) (hs : s < n) (hr : hR h 69 2 = some r) (nr : nd h r 0 8640) (hr2 : NS ≤ r) (P : SBr T K s r h) : ∃ g, s_Locks_findBegins (nI s) h = some g ∧ eqO (fun j => decide (j = r)) h g ∧ SBr T K (s + 1) r g := by
  obtain ⟨-, p, p1, p2, ep, ip⟩ := Rg_one rg en hn hs
  have r114 : 114 ≤ r := hr2
  have eb : ∀ m, bgA (td0 T (mk pF K)) (mk pS K) s m = bgF (td0 T (mk pF K)) (K (105 + 3 * s)) p (1440 - m) m := fun m => by
    unfold bgA
    rw [ks_eq (j := 105 + 3 * s) (Or.inr (Or.inl (by omega))), ks_eq (j := 104 + 3 * s) (Or.inr (Or.inl (by omega))), ip]
  -- how many still minutes from here on, no more than the day
  have key : ∀ (m k : Nat) (g : Hp), m ≤ 1440 → m + k ≤ 1440 → (∀ j, j < k → szI (td0 T (mk pF K) (m + j)) ≤ K (105 + 3 * s)) → (m + k < 1440 → ¬ szI (td0 T (mk pF K) (m + k)) ≤ K (105 + 3 * s)) → eqO (fun j => decide (j = r)) h g → SBr T K s r g → (∀ i, m ≤ i → i < 1440 → hI g r (1440 * s + i) = oI (bgA (td0 T (mk pF K)) (mk pS K) s i)) → ∃ g2, lp (fun q : Int32 × Int32 × Int32 × Int32 × Hp => s_Locks_findBegins_9 q.1 q.2.1 q.2.2.1 q.2.2.2.1 q.2.2.2.2) (nI s, nI k, oI (bgA (td0 T (mk pF K)) (mk pS K) s m), nI m - 1, g) = some g2 ∧ eqO (fun j => decide (j = r)) h g2 ∧ SBr T K (s + 1) r g2 := by
    intro m
    induction m with
    | zero =>
      intro k g hm hk h1 h2 E P1 P2
      refine ⟨g, lp_inr ?_, E, fun s2 i h3 h4 => ?_⟩
      · show s_Locks_findBegins_9 (nI s) (nI k) _ (nI 0 - 1) g = _
        unfold s_Locks_findBegins_9
        rw [if_pos (show nI 0 - 1 < 0 by decide)]
      · by_cases z : s2 = s
        · rw [z]; exact P2 i (by omega) h4
        · exact P1 s2 i (by omega) h4
    | succ m ih =>
      intro k g hm hk h1 h2 E P1 P2
      have eI : ∀ j, j ≠ r → hI g j = hI h j := fun j hj => (E.2 j (decide_eq_false hj)).1
      have sg : StP K g 1 := StP_fr st (fun d hd => eI (1 + d) (by omega))
      have e12 : hI g 12 s = K (105 + 3 * s) := StP_at sg (by omega) (pl_limit s (by omega))
      have e11 : hI g 11 s = nI p := (StP_at sg (by omega) (pl_pass s (by omega))).trans ep
      have e57 : hI g 57 m = td0 T (mk pF K) m := by rw [eI 57 (by omega)]; exact hrow m (by omega)
      have hrg : hR g 69 2 = some r := by rw [hR_of E.1]; exact hr
      have nrg : nd g r 0 8640 := nd_eq E.1 nr
      have eix : nI s * 1440 + nI m = nI (1440 * s + m) := by rw [show (1440 : Int32) = nI 1440 from rfl, nI_mul, nI_add, Nat.mul_comm]
      -- the new count and the new soonest
      have go : ∀ k2, (k2 = if szI (td0 T (mk pF K) m) ≤ K (105 + 3 * s) then k + 1 else 0) → s_Locks_findBegins_46 (nI s) (oI (bgA (td0 T (mk pF K)) (mk pS K) s (m + 1))) (nI m) (nI k2) g = some (.inl (nI s, nI k2, oI (bgA (td0 T (mk pF K)) (mk pS K) s m), nI m - 1, sI g r (1440 * s + m) (oI (bgA (td0 T (mk pF K)) (mk pS K) s m)))) := by
        intro k2 hk2
        have k2b : k2 ≤ 1441 := by rw [hk2]; split <;> omega
        have okm : okB (td0 T (mk pF K)) (K (105 + 3 * s)) p m = decide (p ≤ k2) := by
          apply Bool.eq_iff_iff.mpr
          rw [okB_e, decide_eq_true_eq]
          by_cases z : szI (td0 T (mk pF K) m) ≤ K (105 + 3 * s)
          · rw [if_pos z] at hk2
            constructor
            · intro w
              rcases Nat.lt_or_ge k2 p with u | u
              · exfalso
                have := w.2 (k + 1) (by omega)
                rw [show m + (k + 1) = m + 1 + k by omega] at this
                exact h2 (by omega) this
              · exact u
            · intro w
              refine ⟨by omega, fun j hj => ?_⟩
              by_cases j0 : j = 0
              · rw [j0]; exact z
              · have := h1 (j - 1) (by omega)
                rwa [show m + 1 + (j - 1) = m + j by omega] at this
          · rw [if_neg z] at hk2
            constructor
            · intro w
              exact absurd (w.2 0 (by omega)) z
            · intro w
              omega
        have eA : bgA (td0 T (mk pF K)) (mk pS K) s m = if p ≤ k2 then some m else bgA (td0 T (mk pF K)) (mk pS K) s (m + 1) := by
          rw [eb, eb, show 1440 - m = (1440 - (m + 1)) + 1 by omega, bgF, okm]
          by_cases w : p ≤ k2
          · rw [decide_eq_true w, if_pos rfl, if_pos w]
          · rw [decide_eq_false w, if_neg (by decide), if_neg w]
        have e63 : ∀ v : Int32, s_Locks_findBegins_63 (nI s) (nI k2) v (nI m) g = some (.inl (nI s, nI k2, v, nI m - 1, sI g r (1440 * s + m) v)) := fun v => by
          unfold s_Locks_findBegins_63
          rw [hrg, nn_some, ak_some nrg, ln_of nrg, eix, ib_nI (by omega) (by decide), show ix (nI (1440 * s + m)) = 1440 * s + m from nI_clamp (by omega), Int32.sub_eq_add_neg]
        unfold s_Locks_findBegins_46
        rw [ib_nI (by omega) (by decide), show ix (nI s) = s from nI_clamp (by omega), e11, eA]
        by_cases w : p ≤ k2
        · rw [if_neg (by rw [nI_ltI (by omega) (by omega)]; omega), if_pos w]; exact e63 _
        · rw [if_pos (by rw [nI_ltI (by omega) (by omega)]; omega), if_neg w]; exact e63 _
      have stp : ∀ k2, (k2 = if szI (td0 T (mk pF K) m) ≤ K (105 + 3 * s) then k + 1 else 0) → s_Locks_findBegins_9 (nI s) (nI k) (oI (bgA (td0 T (mk pF K)) (mk pS K) s (m + 1))) (nI (m + 1) - 1) g = s_Locks_findBegins_46 (nI s) (oI (bgA (td0 T (mk pF K)) (mk pS K) s (m + 1))) (nI m) (nI k2) g := by
        intro k2 hk2
        unfold s_Locks_findBegins_9
        rw [nI_pred, if_neg (nI_pos (by omega)), ib_nI (by omega) (by decide), ib_nI (by omega) (by decide), show ix (nI s) = s from nI_clamp (by omega), show ix (nI m) = m from nI_clamp (by omega), e12, e57, z_abs_eq, nI_1]
        by_cases z : szI (td0 T (mk pF K) m) ≤ K (105 + 3 * s)
        · rw [if_neg (Int32.not_lt.mpr z), hk2, if_pos z]
        · rw [if_pos (Int32.not_le.mp z), hk2, if_neg z]
          rfl
      have nxt : ∀ k2, (k2 = if szI (td0 T (mk pF K) m) ≤ K (105 + 3 * s) then k + 1 else 0) → ∃ g2, lp (fun q : Int32 × Int32 × Int32 × Int32 × Hp => s_Locks_findBegins_9 q.1 q.2.1 q.2.2.1 q.2.2.2.1 q.2.2.2.2) (nI s, nI k2, oI (bgA (td0 T (mk pF K)) (mk pS K) s m), nI m - 1, sI g r (1440 * s + m) (oI (bgA (td0 T (mk pF K)) (mk pS K) s m))) = some g2 ∧ eqO (fun j => decide (j = r)) h g2 ∧ SBr T K (s + 1) r g2 := by
        intro k2 hk2
        refine ih k2 _ (by omega) ?_ ?_ ?_ (eqO_sI E (decide_eq_true rfl)) (fun s2 i h3 h4 => ?_) (fun i h3 h4 => ?_)
        · rw [hk2]; split <;> omega
        · intro j hj
          by_cases z : szI (td0 T (mk pF K) m) ≤ K (105 + 3 * s)
          · rw [if_pos z] at hk2
            by_cases j0 : j = 0
            · rw [j0]; exact z
            · have := h1 (j - 1) (by omega)
              rwa [show m + 1 + (j - 1) = m + j by omega] at this
          · rw [if_neg z] at hk2
            omega
        · intro hlt
          by_cases z : szI (td0 T (mk pF K) m) ≤ K (105 + 3 * s)
          · rw [if_pos z] at hk2
            rw [hk2, show m + (k + 1) = m + 1 + k by omega]
            exact h2 (by omega)
          · rw [if_neg z] at hk2
            rw [hk2]; exact z
        · rw [hI_sI', if_neg (by omega)]; exact P1 s2 i h3 h4
        · rw [hI_sI']
          by_cases z : i = m
          · rw [if_pos ⟨rfl, by omega⟩, z]
          · rw [if_neg (by omega)]; exact P2 i (by omega) h4
      obtain ⟨g2, a1, a2⟩ := nxt _ rfl
      refine ⟨g2, ?_, a2⟩
      rw [lp_inl ((stp _ rfl).trans (go _ rfl))]
      exact a1
  have e0 : bgA (td0 T (mk pF K)) (mk pS K) s 1440 = none := by rw [eb]; rfl
  obtain ⟨g2, a1, a2⟩ := key 1440 0 h (Nat.le_refl _) (by decide) (fun j hj => absurd hj (by omega)) (fun z => absurd z (by decide)) (eqO_refl _ _) P (fun i h1 h2 => absurd h1 (by omega))
  rw [e0] at a1
  exact ⟨g2, a1, a2⟩
