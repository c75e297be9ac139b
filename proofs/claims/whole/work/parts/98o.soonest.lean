/-! ways: soonest -/
def edB (T : TF) (K : Nat → Int32) (b s c d : Nat) : Bool := (List.range 5).any fun mv => decide (beh T K b c s mv 0 = some d)
theorem edB_e {T : TF} {K : Nat → Int32} {b s c d : Nat} : edB T K b s c d = true ↔ ed T K b s c d := by
  unfold edB ed
  rw [List.any_eq_true]
  constructor
  · rintro ⟨mv, h1, h2⟩
    exact ⟨mv, List.mem_range.mp h1, of_decide_eq_true h2⟩
  · rintro ⟨mv, h1, h2⟩
    exact ⟨mv, List.mem_range.mpr h1, decide_eq_true h2⟩
/-- where a boat can be, i steps after it began in cell a at step s0 -/
def rch (T : TF) (K : Nat → Int32) (b s0 a : Nat) : Nat → Nat → Bool
  | 0, c => decide (c = a) && canB T K b a (10 * s0)
  | i + 1, d => decide (d < 50) && (List.range 50).any fun c => rch T K b s0 a i c && edB T K b (s0 + i) c d
theorem rch_s {T : TF} {K : Nat → Int32} {b s0 a i d : Nat} : rch T K b s0 a (i + 1) d = true ↔ d < 50 ∧ ∃ c, c < 50 ∧ rch T K b s0 a i c = true ∧ ed T K b (s0 + i) c d := by
  rw [rch, Bool.and_eq_true, decide_eq_true_eq, List.any_eq_true]
  constructor
  · rintro ⟨h0, c, h1, h2⟩
    rw [Bool.and_eq_true, edB_e] at h2
    exact ⟨h0, c, List.mem_range.mp h1, h2⟩
  · rintro ⟨h0, c, h1, h2⟩
    exact ⟨h0, c, List.mem_range.mpr h1, by rw [Bool.and_eq_true, edB_e]; exact h2⟩
theorem ed_can {T : TF} {K : Nat → Int32} {b s c d : Nat} (rg : Rg K) (hc : c < 50) (e : ed T K b s c d) : s + 1 < 144 ∧ canB T K b d (10 * (s + 1)) = true := by
  obtain ⟨mv, h1, h2⟩ := e
  have hs : s + 1 < 144 := by
    rcases Nat.lt_or_ge (s + 1) 144 with z | z
    · exact z
    · unfold beh at h2
      cases e : toC c mv with
      | none => rw [e] at h2; cases h2
      | some t =>
        rw [e] at h2
        have h2 : (if s + 1 < 144 then (if mayG K mv (fa (mk pF K) (td0 T (mk pF K)) (K (41 + c)) (mnS s 0)) (K (91 + 2 * b)) && canB T K b t (mnS (s + 1) 0) then some t else none) else none) = some d := h2
        rw [if_neg (by omega)] at h2
        cases h2
  exact ⟨hs, ((beh_e rg hs hc).mp h2).2.2⟩
theorem rch_can {T : TF} {K : Nat → Int32} {b s0 a : Nat} (rg : Rg K) : ∀ (i c : Nat), rch T K b s0 a i c = true → canB T K b c (10 * (s0 + i)) = true
  | 0, c, h => by
    rw [rch, Bool.and_eq_true, decide_eq_true_eq] at h
    rw [h.1]
    exact h.2
  | i + 1, d, h => by
    obtain ⟨-, c, hc, -, e⟩ := rch_s.mp h
    exact (ed_can rg hc e).2
def snF (P : Nat → Bool) : Nat → Nat → Option Nat
  | 0, _ => none
  | r + 1, s => if P s then some s else snF P r (s + 1)
theorem snF_none {P : Nat → Bool} : ∀ (r s : Nat), (∀ i, s ≤ i → P i = false) → snF P r s = none
  | 0, _, _ => rfl
  | r + 1, s, h => by
    rw [snF, h s (Nat.le_refl _), if_neg (by decide)]
    exact snF_none r (s + 1) (fun i hi => h i (by omega))
theorem snF_b {P : Nat → Bool} : ∀ (r s x : Nat), snF P r s = some x → s ≤ x ∧ x < s + r ∧ P x = true
  | 0, _, _, e => by cases e
  | r + 1, s, x, e => by
    rw [snF] at e
    split at e
    · cases e
      rename_i z
      exact ⟨by omega, by omega, z⟩
    · have := snF_b r (s + 1) x e
      exact ⟨by omega, by omega, this.2.2⟩
def snO (T : TF) (K : Nat → Int32) (b s0 a t : Nat) : Option Nat := snF (fun s => rch T K b s0 a (s - s0) t) (144 - s0) s0
theorem rch_dead {T : TF} {K : Nat → Int32} {b s0 a i : Nat} (h : ∀ c, c < 50 → rch T K b s0 a i c = false) : ∀ (j c : Nat), c < 50 → rch T K b s0 a (i + j) c = false
  | 0, c, hc => h c hc
  | j + 1, d, hd => by
    cases e : rch T K b s0 a (i + (j + 1)) d
    · rfl
    · obtain ⟨-, c, hc, h1, -⟩ := rch_s.mp e
      have h1 : rch T K b s0 a (i + j) c = true := h1
      rw [rch_dead h j c hc] at h1
      cases h1
/-- the class's -/
theorem p_first {τ : Nat → TF} {K : Nat → Int32} {b s0 a t : Nat} {h : Hp} (X : WX τ K b h) (hs0 : s0 < 144) (ha : a < 50) (ht : t < 50) : s_Ways_firstStepAt (nI s0) (nI a) (nI t) h = some (oI (snO (tin τ K) K b s0 a t)) := by
  have rg := X.1.1.1.2.1
  have loop : ∀ (q s : Nat) (v : Int64), s + q = 144 → s0 ≤ s → (s < 144 → hiz v ∧ ∀ c, c < 50 → bt v c = rch (tin τ K) K b s0 a (s - s0) c) → lp (fun q : Int32 × Int64 × Int32 => s_Ways_firstStepAt_15 q.1 q.2.1 q.2.2 h) (nI t, v, nI s) = some (oI (snF (fun s => rch (tin τ K) K b s0 a (s - s0) t) q s)) := by
    intro q
    induction q with
    | zero =>
      intro s v hs h0 P
      refine lp_inr ?_
      show s_Ways_firstStepAt_15 (nI t) v (nI s) h = _
      unfold s_Ways_firstStepAt_15 s_Ways_firstStepAt_70
      rw [if_pos (by rw [show (144 : Int32) = nI 144 from rfl, nI_leI (by decide) (by omega)]; omega)]
      rfl
    | succ q ih =>
      intro s v hs h0 P
      obtain ⟨hv, P⟩ := P (by omega)
      have e15 : s_Ways_firstStepAt_15 (nI t) v (nI s) h = if v = 0 then some (.inr (-1)) else if bt v t then some (.inr (nI s)) else if 143 ≤ s then some (.inl (nI t, 0, nI (s + 1))) else (s_Ways_reached v (nI s) h).bind fun u2 => some (.inl (nI t, u2, nI (s + 1))) := by
        unfold s_Ways_firstStepAt_15 s_Ways_firstStepAt_70 s_Ways_firstStepAt_62
        rw [if_neg (by rw [show (144 : Int32) = nI 144 from rfl, nI_leI (by decide) (by omega)]; omega), p_has v ht, Option.bind_some, nI_1]
        by_cases z : v = 0
        · rw [if_pos ((lg_cmp_eq _ _).mpr z), if_pos z]; rfl
        · rw [if_neg (fun y => z ((lg_cmp_eq _ _).mp y)), if_neg z]
          cases bt v t
          · rw [if_pos (show (if false = true then (1 : Int32) else 0) = 0 by decide), if_neg (show ¬ false = true by decide)]
            by_cases y : 143 ≤ s
            · rw [if_pos (by rw [show (143 : Int32) = nI 143 from rfl, nI_leI (by decide) (by omega)]; exact y), if_pos y]
            · rw [if_neg (by rw [show (143 : Int32) = nI 143 from rfl, nI_leI (by decide) (by omega)]; exact y), if_neg y]
          · rw [if_neg (show ¬ (if true = true then (1 : Int32) else 0) = 0 by decide), if_pos rfl]
      by_cases z : v = 0
      · rw [if_pos z] at e15
        rw [lp_inr e15, snF_none (q + 1) s (fun i hi => ?_)]
        · rfl
        · have := rch_dead (T := tin τ K) (K := K) (b := b) (s0 := s0) (a := a) (i := s - s0) (fun c hc => by rw [← P c hc, z, bt_0]) (i - s) t ht
          rw [show s - s0 + (i - s) = i - s0 by omega] at this
          exact this
      · rw [if_neg z] at e15
        rw [snF, ← P t ht]
        cases hb : bt v t
        · rw [hb, if_neg (show ¬ false = true by decide)] at e15
          rw [if_neg (show ¬ false = true by decide)]
          by_cases y : 143 ≤ s
          · rw [if_pos y] at e15
            rw [lp_inl e15]
            exact ih (s + 1) 0 (by omega) (by omega) (fun x => absurd x (by omega))
          · rw [if_neg y] at e15
            obtain ⟨r, r1, r2, r3⟩ := p_reached X (s := s) (by omega) hv (fun c hc w => by
              rw [P c hc] at w
              exact canB_k rg hc (rch_can rg _ c w))
            rw [r1, Option.bind_some] at e15
            rw [lp_inl e15]
            refine ih (s + 1) r (by omega) (by omega) (fun _ => ⟨r2, fun d hd => ?_⟩)
            apply Bool.eq_iff_iff.mpr
            rw [r3 d hd, show s + 1 - s0 = (s - s0) + 1 by omega, rch_s, show s0 + (s - s0) = s by omega]
            constructor
            · rintro ⟨c, c1, c2, c3⟩
              exact ⟨hd, c, c1, by rw [← P c c1]; exact c2, c3⟩
            · rintro ⟨-, c, c1, c2, c3⟩
              exact ⟨c, c1, by rw [P c c1]; exact c2, c3⟩
        · rw [hb, if_pos rfl] at e15
          rw [lp_inr e15, if_pos rfl]
          rfl
  unfold s_Ways_firstStepAt
  rw [ib_nI hs0 (by decide), lt_eq, show ix (nI s0) = s0 from nI_clamp (by omega)]
  refine loop (144 - s0) s0 _ (by omega) (Nat.le_refl _) (fun _ => ⟨hiz_and (hiz_one ha), fun c hc => ?_⟩)
  rw [bt_and, canB_bt rg (X.2.2 s0 hs0) hc, bt_one ha hc, Nat.sub_self, rch]
  by_cases z : a = c
  · rw [decide_eq_true z, decide_eq_true z.symm, z, Bool.and_true, Bool.true_and]
  · rw [decide_eq_false z, decide_eq_false (fun y => z y.symm), Bool.and_false, Bool.false_and]
