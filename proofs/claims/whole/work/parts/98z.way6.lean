/-! ways: way -/
def rRow (T : TF) (K : Nat → Int32) (b s0 a t u s c : Nat) : Bool := rdB T K b s0 a t u (u - s) c
theorem rRow_u (T : TF) (K : Nat → Int32) (b s0 a t u c : Nat) : rRow T K b s0 a t u u c = (decide (c = t) && rch T K b s0 a (u - s0) c) := by
  unfold rRow
  rw [Nat.sub_self, rdB]
theorem rRow_s {T : TF} {K : Nat → Int32} {b s0 a t u s c : Nat} (hs : s < u) : rRow T K b s0 a t u s c = (gB T K b s c (rRow T K b s0 a t u (s + 1)) 5 && rch T K b s0 a (s - s0) c) := by
  unfold rRow
  rw [show u - s = (u - (s + 1)) + 1 by omega, rdB, show u - (u - (s + 1) + 1) = s by omega]
theorem p_wa226 {τ : Nat → TF} {K : Nat → Int32} {b s0 a t u m : Nat} {g : Hp} (X : LX τ K g) (hb : b < 6) (hu : s0 ≤ u) (hu2 : u < 144) (ha : a < 50) (ht : t < 50) (e : rch (tin τ K) K b s0 a (u - s0) t = true) (hm : m ≤ u) (W : LRm (rRow (tin τ K) K b s0 a t u) s0 u g) : ∀ (q i : Nat), s0 + i + q = m → lp (fun q : Int32 × Int32 × Int32 × Int32 × Hp => s_Mod_way_226 q.1 q.2.1 q.2.2.1 q.2.2.2.1 q.2.2.2.2) (nI b, nI m, nI (wcl (tin τ K) K b s0 a t u i), nI (s0 + i), g) = some (nI (wcl (tin τ K) K b s0 a t u (m - s0)), g) := by
  have rg := X.1.2.1
  intro q
  induction q with
  | zero =>
    intro i hi
    refine lp_inr ?_
    show s_Mod_way_226 (nI b) (nI m) (nI (wcl (tin τ K) K b s0 a t u i)) (nI (s0 + i)) g = _
    unfold s_Mod_way_226
    rw [if_pos (by rw [nI_leI (by omega) (by omega)]; omega), show m - s0 = i by omega]
  | succ q ih =>
    intro i hi
    obtain ⟨w1, w2⟩ := way_ok rg hu ha ht e i (by omega)
    have hc := wcl_lt (T := tin τ K) (K := K) (b := b) (s0 := s0) (t := t) (u := u) ha i
    have l := p_wa240 (m := m) (s := s0 + i) (M := rRow (tin τ K) K b s0 a t u (s0 + i + 1)) X hb hc (by omega) (fun d hd => W (s0 + i + 1) d (by omega) (by omega) hd) 5 0 (by omega)
    rw [show u - (s0 + i) = (u - (s0 + i + 1)) + 1 by omega, wlB, Bool.and_eq_true, gB_5 hc, show u - (u - (s0 + i + 1) + 1) = s0 + i by omega] at w2
    have en : mnN (tin τ K) K b (s0 + i) (wcl (tin τ K) K b s0 a t u i) (rRow (tin τ K) K b s0 a t u (s0 + i + 1)) 5 = wcl (tin τ K) K b s0 a t u (i + 1) := by
      refine mnN_nxt hc (fun d hd z => ?_) w2.1
      refine rl_wl rg _ d (by omega) hd ?_
      rw [show u - (u - (s0 + i + 1)) - s0 = i + 1 by omega]
      exact rch_s.mpr ⟨hd, _, hc, w1, z⟩
    rw [en] at l
    have stp : s_Mod_way_226 (nI b) (nI m) (nI (wcl (tin τ K) K b s0 a t u i)) (nI (s0 + i)) g = some (.inl (nI b, nI m, nI (wcl (tin τ K) K b s0 a t u (i + 1)), nI (s0 + (i + 1)), g)) := by
      unfold s_Mod_way_226
      rw [if_neg (by rw [nI_leI (by omega) (by omega)]; omega)]
      exact l
    rw [lp_inl stp]
    exact ih (i + 1) (by omega)
theorem p_wa69 {τ : Nat → TF} {K : Nat → Int32} {b s0 a t m u s : Nat} {h : Hp} (X : LX τ K h) (hb : b < 6) (ht : t < 50) (hs0 : s0 ≤ s) (hs : s ≤ u) (hu : u < 144) (C : RCm (tin τ K) K b s0 a (u + 1) h) : ∀ (q c : Nat) (g : Hp), c + q = 50 → eqO s101 h g → LRm (rRow (tin τ K) K b s0 a t u) (s + 1) u g → (∀ d, d < c → hI g 101 (50 * s + d) = b01 (rRow (tin τ K) K b s0 a t u s d)) → ∃ g2, lp (fun q : Int32 × Int32 × Int32 × Int32 × Int32 × Int32 × Int32 × Int32 × Hp => s_Mod_way_69 q.1 q.2.1 q.2.2.1 q.2.2.2.1 q.2.2.2.2.1 q.2.2.2.2.2.1 q.2.2.2.2.2.2.1 q.2.2.2.2.2.2.2.1 q.2.2.2.2.2.2.2.2) (nI b, nI s0, nI a, nI t, nI m, nI u, nI s, nI c, g) = some (.inl (nI b, nI s0, nI a, nI t, nI m, nI u, nI s + -1, g2)) ∧ eqO s101 h g2 ∧ LRm (rRow (tin τ K) K b s0 a t u) s u g2 := by
  intro q
  induction q with
  | zero =>
    intro c g hc E P R
    have hc : c = 50 := by omega
    subst hc
    refine ⟨g, lp_inr ?_, E, fun s2 c h1 h2 h3 => ?_⟩
    · show s_Mod_way_69 (nI b) (nI s0) (nI a) (nI t) (nI m) (nI u) (nI s) (nI 50) g = _
      unfold s_Mod_way_69
      rw [if_pos (show (50 : Int32) ≤ nI 50 by decide)]
    · by_cases z : s2 = s
      · rw [z]; exact R c h3
      · exact P s2 c (by omega) h2 h3
  | succ q ih =>
    intro c g hc E P R
    have hc2 : c < 50 := by omega
    have Xg := LX_S X E s101_r
    have R1 : hI g 100 (50 * s + c) = b01 (rch (tin τ K) K b s0 a (s - s0) c) := by rw [(E.2 100 (by decide)).1]; exact C s c hs0 (by omega) hc2
    have stp : s_Mod_way_69 (nI b) (nI s0) (nI a) (nI t) (nI m) (nI u) (nI s) (nI c) g = some (.inl (nI b, nI s0, nI a, nI t, nI m, nI u, nI s, nI (c + 1), sI g 101 (50 * s + c) (b01 (rRow (tin τ K) K b s0 a t u s c)))) := by
      unfold s_Mod_way_69 s_Mod_way_94 s_Mod_way_95
      rw [if_neg (by rw [show (50 : Int32) = nI 50 from rfl, nI_leI (by decide) (by omega)]; omega)]
      by_cases z : s = u
      · have e100 : ∀ x : Bool, lp (fun q : Int32 × Int32 × Int32 × Int32 × Int32 × Int32 × Int32 × Int32 × Int32 × Int32 × Hp => s_Mod_way_100 q.1 q.2.1 q.2.2.1 q.2.2.2.1 q.2.2.2.2.1 q.2.2.2.2.2.1 q.2.2.2.2.2.2.1 q.2.2.2.2.2.2.2.1 q.2.2.2.2.2.2.2.2.1 q.2.2.2.2.2.2.2.2.2.1 q.2.2.2.2.2.2.2.2.2.2) (nI b, nI s0, nI a, nI t, nI m, nI u, nI s, nI c, b01 x, nI 0, g) = some (.inl (nI b, nI s0, nI a, nI t, nI m, nI u, nI s, nI (c + 1), sI g 101 (50 * s + c) (b01 (x && rch (tin τ K) K b s0 a (s - s0) c)))) := fun x => by
          refine lp_inr ?_
          show s_Mod_way_100 (nI b) (nI s0) (nI a) (nI t) (nI m) (nI u) (nI s) (nI c) (b01 x) (nI 0) g = _
          unfold s_Mod_way_100
          rw [if_neg (show ¬ (5 : Int32) ≤ nI 0 by decide), if_pos (by rw [z]; exact Int32.le_refl _), p_wa169 hc2 (by omega) R1]
          rfl
        have er : rRow (tin τ K) K b s0 a t u s c = (decide (c = t) && rch (tin τ K) K b s0 a (s - s0) c) := by rw [z, rRow_u]
        rw [er, ← e100, if_pos (by rw [z])]
        by_cases y : c = t
        · rw [if_pos (by rw [y]), decide_eq_true y]; rfl
        · rw [if_neg (by rw [nI_eq (by omega) (by omega)]; exact y), decide_eq_false y]; rfl
      · rw [if_neg (by rw [nI_eq (by omega) (by omega)]; exact z), rRow_s (by omega)]
        refine p_wa100 Xg hb hc2 (by omega) hu R1 P 5 0 false (by omega) ?_
        unfold gB
        rw [List.range_zero, List.any_nil]
    rw [lp_inl stp]
    refine ih (c + 1) _ (by omega) (eqO_sI E (by decide)) (fun s2 d h1 h2 h3 => ?_) (fun d hd => ?_)
    · rw [hI_sI', if_neg (by omega)]; exact P s2 d h1 h2 h3
    · rw [hI_sI']
      by_cases z : d = c
      · rw [if_pos ⟨rfl, by omega⟩, z]
      · rw [if_neg (by omega)]; exact R d (by omega)
theorem p_wa60 {τ : Nat → TF} {K : Nat → Int32} {b s0 a t m u : Nat} {h : Hp} (X : LX τ K h) (hb : b < 6) (ha : a < 50) (ht : t < 50) (hu1 : s0 ≤ u) (hu : u < 144) (e : rch (tin τ K) K b s0 a (u - s0) t = true) (hm1 : s0 ≤ m) (hm : m ≤ u) (C : RCm (tin τ K) K b s0 a (u + 1) h) : ∀ (q k : Nat) (g : Hp), k = s0 + q → k ≤ u + 1 → eqO s101 h g → LRm (rRow (tin τ K) K b s0 a t u) k u g → ∃ g2, lp (fun q : Int32 × Int32 × Int32 × Int32 × Int32 × Int32 × Int32 × Hp => s_Mod_way_60 q.1 q.2.1 q.2.2.1 q.2.2.2.1 q.2.2.2.2.1 q.2.2.2.2.2.1 q.2.2.2.2.2.2.1 q.2.2.2.2.2.2.2) (nI b, nI s0, nI a, nI t, nI m, nI u, nI k - 1, g) = some (nI (wcl (tin τ K) K b s0 a t u (m - s0)), g2) ∧ eqO s101 h g2 := by
  intro q
  induction q with
  | zero =>
    intro k g hk hku E P
    have hk : k = s0 := by omega
    subst hk
    have l := p_wa226 (m := m) (LX_S X E s101_r) hb hu1 hu ha ht e hm P (m - k) 0 (by omega)
    refine ⟨g, lp_inr ?_, E⟩
    show s_Mod_way_60 (nI b) (nI k) (nI a) (nI t) (nI m) (nI u) (nI k - 1) g = _
    unfold s_Mod_way_60
    have l2 : lp (fun q : Int32 × Int32 × Int32 × Int32 × Hp => s_Mod_way_226 q.1 q.2.1 q.2.2.1 q.2.2.2.1 q.2.2.2.2) (nI b, nI m, nI a, nI k, g) = _ := l
    rw [if_pos (nI_dn ⟨k, by omega⟩), l2]
    rfl
  | succ q ih =>
    intro k g hk hku E P
    have e1 : nI k - 1 = nI (k - 1) := by rw [show (1 : Int32) = nI 1 from rfl, nI_sub (by omega)]
    obtain ⟨g2, a1, a2, a3⟩ := p_wa69 (t := t) (m := m) (s := k - 1) X hb ht (by omega) (by omega) hu C 50 0 g (by omega) E (by rw [show k - 1 + 1 = k by omega]; exact P) (fun d hd => absurd hd (by omega))
    have stp : s_Mod_way_60 (nI b) (nI s0) (nI a) (nI t) (nI m) (nI u) (nI (k - 1)) g = some (.inl (nI b, nI s0, nI a, nI t, nI m, nI u, nI (k - 1) - 1, g2)) := by
      unfold s_Mod_way_60
      rw [if_neg (by rw [nI_ltI (by omega) (by omega)]; omega), Int32.sub_eq_add_neg]
      exact a1
    rw [e1, lp_inl stp]
    exact ih (k - 1) g2 (by omega) (by omega) a2 a3
