/-! ways: calmest, the question -/
theorem p_calmR {τ : Nat → TF} {K : Nat → Int32} {b s0 a t : Nat} {h : Hp} (X : LX τ K h) (hb : b < 6) (hs0 : s0 < 144) (ha : a < 50) (ht : t < 50) : ∀ (q c : Nat) (g : Hp), c + q = 50 → eqO s123 h g → (∀ x, x < c → hI g 102 x = nI (csF (tin τ K) K b s0 a 0 x)) → ∃ g2, lp (fun q : Int32 × Int32 × Int32 × Int32 × Int32 × Hp => s_Mod_calmest_21 q.1 q.2.1 q.2.2.1 q.2.2.2.1 q.2.2.2.2.1 q.2.2.2.2.2) (nI b, nI s0, nI a, nI t, nI c, g) = some (oI (cmO (tin τ K) K b s0 a t), g2) ∧ eqO s123 h g2 := by
  intro q
  induction q with
  | zero =>
    intro c g hc E R
    have hc : c = 50 := by omega
    subst hc
    obtain ⟨g2, a1, a2⟩ := p_ca100 (s0 := s0) (a := a) (t := t) X hb ht (143 - s0) 0 g (by omega) E (fun x hx => R x hx)
    refine ⟨g2, lp_inr ?_, a2⟩
    show s_Mod_calmest_21 (nI b) (nI s0) (nI a) (nI t) (nI 50) g = _
    unfold s_Mod_calmest_21
    have a1' : lp (fun q : Int32 × Int32 × Int32 × Int32 × Hp => s_Mod_calmest_100 q.1 q.2.1 q.2.2.1 q.2.2.2.1 q.2.2.2.2) (nI b, nI t, nI (csF (tin τ K) K b s0 a 0 t), nI s0, g) = _ := a1
    rw [if_pos (show (50 : Int32) ≤ nI 50 by decide), ib_nI ht (by decide), show ix (nI t) = t from nI_clamp (by omega), R t ht, a1']
    rfl
  | succ q ih =>
    intro c g hc E R
    have hc2 : c < 50 := by omega
    have Xg := LX_S X E s123_r
    have e81 : ∀ v : Int32, s_Mod_calmest_81 (nI b) (nI s0) (nI a) (nI t) (nI c) v (nI c) g = some (.inl (nI b, nI s0, nI a, nI t, nI (c + 1), sI g 102 c v)) := fun v => by
      unfold s_Mod_calmest_81
      rw [ib_nI hc2 (by decide), show ix (nI c) = c from nI_clamp (by omega), nI_1]
    have e79 : s_Mod_calmest_79 (nI b) (nI s0) (nI a) (nI t) (nI c) (nI c) g = some (.inl (nI b, nI s0, nI a, nI t, nI (c + 1), sI g 102 c (nI 1000000))) := by
      unfold s_Mod_calmest_79
      exact e81 _
    have stp : s_Mod_calmest_21 (nI b) (nI s0) (nI a) (nI t) (nI c) g = some (.inl (nI b, nI s0, nI a, nI t, nI (c + 1), sI g 102 c (nI (csF (tin τ K) K b s0 a 0 c)))) := by
      show _ = some (Sum.inl (nI b, nI s0, nI a, nI t, nI (c + 1), sI g 102 c (nI (if c = a ∧ canB (tin τ K) K b a (10 * s0) = true then whN (tin τ K) K a s0 else 1000000))))
      unfold s_Mod_calmest_21
      rw [if_neg (by rw [show (50 : Int32) = nI 50 from rfl, nI_leI (by decide) (by omega)]; omega)]
      by_cases z : c = a
      · subst z
        obtain ⟨i1, i2, i3⟩ := p_wh99 (s := s0) Xg hc2 hs0
        rw [if_pos rfl, p_minuteOf (by omega) (by decide), Option.bind_some, mnS_0 hs0, p_canBeR Xg hb hc2 (by omega), Option.bind_some]
        cases e : canB (tin τ K) K b c (10 * s0)
        · rw [if_pos (show (if false = true then (1 : Int32) else 0) = 0 by decide), if_neg (fun y : c = c ∧ false = true => by cases y.2)]
          exact e79
        · rw [if_neg (show ¬ (if true = true then (1 : Int32) else 0) = 0 by decide), if_pos ⟨rfl, rfl⟩, p_kindR Xg.1 hc2, Option.bind_some, Option.bind_some, i1, ib_nI i2 (by decide), show ix (nI (1440 * kCl K c + 10 * s0)) = 1440 * kCl K c + 10 * s0 from nI_clamp (by omega), i3]
          exact e81 _
      · rw [if_neg (by rw [nI_eq (by omega) (by omega)]; exact z), if_neg (fun y : c = a ∧ canB (tin τ K) K b a (10 * s0) = true => z y.1)]
        exact e79
    rw [lp_inl stp]
    refine ih (c + 1) _ (by omega) (eqO_sI E (by decide)) (fun x hx => ?_)
    rw [hI_sI']
    by_cases z : x = c
    · rw [if_pos ⟨rfl, z⟩, z]
    · rw [if_neg (fun y => z y.2)]; exact R x (by omega)
def aCalmest (x1 x2 x3 x4 : Int32) (T : TF) (K : Nat → Int32) : Int32 := if wi x1 0 (K 185 - 1) = 0 then -1 else if wi x2 0 143 = 0 then -1 else if wi x3 0 49 = 0 then -1 else if wi x4 0 49 = 0 then -1 else oI (cmO T K (ix x1) (ix x2) (ix x3) (ix x4))
theorem C_calmest {τ : Nat → TF} {K : Nat → Int32} {h : Hp} (x1 x2 x3 x4 : Int32) (X : QX τ K h) : ∃ h1, s_Race_calmest x1 x2 x3 x4 h = some (aCalmest x1 x2 x3 x4 (tin τ K) K, h1) ∧ CQ (tin τ K) K h h1 := by
  unfold s_Race_calmest s_Race_calmest_30 aCalmest
  rw [p_isBoatC X.1.1, Option.bind_some]
  by_cases h1 : wi x1 0 (K 185 - 1) = 0
  · rw [if_pos h1, if_pos h1]; exact ⟨h, rfl, QX_CQ X (eqO_refl _ _) X⟩
  rw [if_neg h1, if_neg h1, p_isStepC, Option.bind_some]
  by_cases h2 : wi x2 0 143 = 0
  · rw [if_pos h2, if_pos h2]; exact ⟨h, rfl, QX_CQ X (eqO_refl _ _) X⟩
  rw [if_neg h2, if_neg h2, p_isCellC, Option.bind_some]
  by_cases h3 : wi x3 0 49 = 0
  · rw [if_pos h3, if_pos h3]; exact ⟨h, rfl, QX_CQ X (eqO_refl _ _) X⟩
  rw [if_neg h3, if_neg h3, p_isCellC, Option.bind_some]
  by_cases h4 : wi x4 0 49 = 0
  · rw [if_pos h4, if_pos h4]; exact ⟨h, rfl, QX_CQ X (eqO_refl _ _) X⟩
  rw [if_neg h4, if_neg h4]
  obtain ⟨b, hb, rfl⟩ := boat_n X.1.2.1 (wi_n0 h1)
  obtain ⟨s, hs, rfl⟩ := wi_nat (b := 143) (by decide) (wi_n0 h2)
  obtain ⟨c, hc, rfl⟩ := wi_nat (b := 49) (by decide) (wi_n0 h3)
  obtain ⟨t, ht, rfl⟩ := wi_nat (b := 49) (by decide) (wi_n0 h4)
  obtain ⟨g1, g2, a1, a2, a3, a4⟩ := p_ways hb X
  obtain ⟨g3, c1, c2⟩ := p_leastC (s0 := s) (a := c) (t := t) a4 (by omega) (by omega) (by omega)
  rw [a1, Option.bind_some, a2, Option.bind_some, c1, Option.bind_some, show ix (nI b) = b from nI_clamp (by omega), show ix (nI s) = s from nI_clamp (by omega), show ix (nI c) = c from nI_clamp (by omega), show ix (nI t) = t from nI_clamp (by omega)]
  exact ⟨g3, rfl, QX_CQ X (eqO_trans a3 (eqO_mono c2 (fun j hj => s678_w j (sWy_sC j hj)))) (WX_678 a4 c2).1.1⟩
theorem R_calmest {τ : Nat → TF} {K : Nat → Int32} {n : Nat} {h : Hp} (x1 x2 x3 x4 : Int32) (X : RX τ K h) (rc : RC (tin τ K) K n h) : ∃ h2, s_Mod_calmest x1 x2 x3 x4 h = some (aCalmest x1 x2 x3 x4 (tin τ K) K, h2) ∧ RE (tin τ K) K n h h2 := by
  unfold s_Mod_calmest aCalmest
  rw [p_isWay X, Option.bind_some]
  by_cases h1 : wi x1 0 (K 185 - 1) = 0
  · rw [if_pos h1, if_pos h1, if_pos rfl]; exact ⟨h, rfl, RE_refl rc⟩
  rw [if_neg h1, if_neg h1]
  by_cases h2 : wi x2 0 143 = 0
  · rw [if_pos h2, if_pos h2, if_pos rfl]; exact ⟨h, rfl, RE_refl rc⟩
  rw [if_neg h2, if_neg h2]
  by_cases h3 : wi x3 0 49 = 0
  · rw [if_pos h3, if_pos h3, if_pos rfl]; exact ⟨h, rfl, RE_refl rc⟩
  rw [if_neg h3, if_neg h3]
  by_cases h4 : wi x4 0 49 = 0
  · rw [if_pos h4, if_pos h4, if_pos rfl]; exact ⟨h, rfl, RE_refl rc⟩
  rw [if_neg h4, if_neg h4, if_neg (show ¬ (1 : Int32) = 0 by decide)]
  obtain ⟨b, hb, rfl⟩ := boat_n X.2.1 (wi_n0 h1)
  obtain ⟨s, hs, rfl⟩ := wi_nat (b := 143) (by decide) (wi_n0 h2)
  obtain ⟨c, hc, rfl⟩ := wi_nat (b := 49) (by decide) (wi_n0 h3)
  obtain ⟨t, ht, rfl⟩ := wi_nat (b := 49) (by decide) (wi_n0 h4)
  obtain ⟨u, b1, b2, b3, b4, b5, b6⟩ := p_looks X rc
  obtain ⟨h2, c1, c2⟩ := p_calmR (s0 := s) (a := c) (t := t) ⟨b4, b6⟩ hb (by omega) (by omega) (by omega) 50 0 u (by omega) (eqO_refl _ _) (fun x hx => absurd hx (by omega))
  have c1' : lp (fun q : Int32 × Int32 × Int32 × Int32 × Int32 × Hp => s_Mod_calmest_21 q.1 q.2.1 q.2.2.1 q.2.2.2.1 q.2.2.2.2.1 q.2.2.2.2.2) (nI b, nI s, nI c, nI t, 0, u) = _ := c1
  rw [b1, Option.bind_some, c1', show ix (nI b) = b from nI_clamp (by omega), show ix (nI s) = s from nI_clamp (by omega), show ix (nI c) = c from nI_clamp (by omega), show ix (nI t) = t from nI_clamp (by omega)]
  exact ⟨h2, rfl, RE_trans b2 b3 (RE_wy c2 s123_r b5)⟩
theorem Q_calmest (n : Nat) (x1 x2 x3 x4 : Int32) (h : Hp) (_ : n < 512) (hi : Inv n h) : ∃ h2, q_calmest x1 x2 x3 x4 h = some h2 ∧ Inv (n + 1) h2 := ask hi (aCalmest x1 x2 x3 x4) (fun _ _ X => C_calmest x1 x2 x3 x4 X) (fun _ _ _ _ X rc => R_calmest x1 x2 x3 x4 X rc)
