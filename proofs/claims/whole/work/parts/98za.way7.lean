/-! ways: way, the question -/
def aWay (x1 x2 x3 x4 x5 : Int32) (T : TF) (K : Nat → Int32) : Int32 := if wi x1 0 (K 185 - 1) = 0 then -1 else if wi x2 0 143 = 0 then -1 else if wi x3 0 49 = 0 then -1 else if wi x4 0 49 = 0 then -1 else if wi x5 0 143 = 0 then -1 else oI (wyO T K (ix x1) (ix x2) (ix x3) (ix x4) (ix x5))
theorem C_way {τ : Nat → TF} {K : Nat → Int32} {h : Hp} (x1 x2 x3 x4 x5 : Int32) (X : QX τ K h) : ∃ h1, s_Race_way x1 x2 x3 x4 x5 h = some (aWay x1 x2 x3 x4 x5 (tin τ K) K, h1) ∧ CQ (tin τ K) K h h1 := by
  unfold s_Race_way s_Race_way_38 aWay
  rw [p_isBoatC X.1.1, Option.bind_some]
  by_cases h1 : wi x1 0 (K 185 - 1) = 0
  · rw [if_pos h1, if_pos h1]; exact ⟨h, rfl, QX_CQ X (eqO_refl _ _) X⟩
  rw [if_neg h1, if_neg h1, p_isStepC, Option.bind_some]
  by_cases h2 : wi x2 0 143 = 0
  · rw [if_pos h2, if_pos h2]; exact ⟨h, rfl, QX_CQ X (eqO_refl _ _) X⟩
  rw [if_neg h2, if_neg h2, p_isCellC, Option.bind_some]
  by_cases h3 : wi x3 0 49 = 0
  · rw [if_pos h3, if_pos h3]; exact ⟨h, rfl, QX_CQ X (eqO_refl _ _) X⟩
  rw [if_neg h3, if_neg h3, p_isCellC, Option.bind_some]
  by_cases h4 : wi x4 0 49 = 0
  · rw [if_pos h4, if_pos h4]; exact ⟨h, rfl, QX_CQ X (eqO_refl _ _) X⟩
  rw [if_neg h4, if_neg h4, p_isStepC, Option.bind_some]
  by_cases h5 : wi x5 0 143 = 0
  · rw [if_pos h5, if_pos h5]; exact ⟨h, rfl, QX_CQ X (eqO_refl _ _) X⟩
  rw [if_neg h5, if_neg h5]
  obtain ⟨b, hb, rfl⟩ := boat_n X.1.2.1 (wi_n0 h1)
  obtain ⟨s, hs, rfl⟩ := wi_nat (b := 143) (by decide) (wi_n0 h2)
  obtain ⟨c, hc, rfl⟩ := wi_nat (b := 49) (by decide) (wi_n0 h3)
  obtain ⟨t, ht, rfl⟩ := wi_nat (b := 49) (by decide) (wi_n0 h4)
  obtain ⟨m, hm, rfl⟩ := wi_nat (b := 143) (by decide) (wi_n0 h5)
  obtain ⟨g1, g2, a1, a2, a3, a4⟩ := p_ways hb X
  obtain ⟨g3, c1, c2⟩ := p_cow (s0 := s) (a := c) (t := t) (m := m) a4 (by omega) (by omega) (by omega) (by omega)
  rw [a1, Option.bind_some, a2, Option.bind_some, c1, Option.bind_some, show ix (nI b) = b from nI_clamp (by omega), show ix (nI s) = s from nI_clamp (by omega), show ix (nI c) = c from nI_clamp (by omega), show ix (nI t) = t from nI_clamp (by omega), show ix (nI m) = m from nI_clamp (by omega)]
  refine ⟨g3, rfl, QX_CQ X (eqO_trans a3 (eqO_mono c2 (fun j hj => decide_eq_false ?_))) (WX_66 a4 c2).1.1⟩
  rintro rfl
  cases hj
theorem R_way {τ : Nat → TF} {K : Nat → Int32} {n : Nat} {h : Hp} (x1 x2 x3 x4 x5 : Int32) (X : RX τ K h) (rc : RC (tin τ K) K n h) : ∃ h2, s_Mod_way x1 x2 x3 x4 x5 h = some (aWay x1 x2 x3 x4 x5 (tin τ K) K, h2) ∧ RE (tin τ K) K n h h2 := by
  unfold s_Mod_way s_Mod_way_20 s_Mod_way_54 aWay
  rw [p_isWay X, Option.bind_some]
  by_cases h1 : wi x1 0 (K 185 - 1) = 0
  · rw [if_pos h1, if_pos h1, if_pos rfl]; exact ⟨h, rfl, RE_refl rc⟩
  rw [if_neg h1, if_neg h1]
  by_cases h2 : wi x2 0 143 = 0
  · rw [if_pos h2, if_pos h2, if_pos rfl]; exact ⟨h, rfl, RE_refl rc⟩
  rw [if_neg h2, if_neg h2]
  by_cases h3 : wi x3 0 49 = 0
  · rw [if_pos h3, if_pos h3, if_pos rfl]; exact ⟨h, rfl, RE_refl rc⟩
  rw [if_neg h3, if_neg h3]
  by_cases h4 : wi x4 0 49 = 0
  · rw [if_pos h4, if_pos h4, if_pos rfl]; exact ⟨h, rfl, RE_refl rc⟩
  rw [if_neg h4, if_neg h4, if_neg (show ¬ (1 : Int32) = 0 by decide), p_isStepR, Option.bind_some]
  by_cases h5 : wi x5 0 143 = 0
  · rw [if_pos h5, if_pos h5]; exact ⟨h, rfl, RE_refl rc⟩
  rw [if_neg h5, if_neg h5]
  obtain ⟨b, hb, rfl⟩ := boat_n X.2.1 (wi_n0 h1)
  obtain ⟨s, hs, rfl⟩ := wi_nat (b := 143) (by decide) (wi_n0 h2)
  obtain ⟨c, hc, rfl⟩ := wi_nat (b := 49) (by decide) (wi_n0 h3)
  obtain ⟨t, ht, rfl⟩ := wi_nat (b := 49) (by decide) (wi_n0 h4)
  obtain ⟨m, hm, rfl⟩ := wi_nat (b := 143) (by decide) (wi_n0 h5)
  obtain ⟨v, b1, b2, b3, b4, b5, b6⟩ := p_looks X rc
  obtain ⟨g, c1, c2, c3⟩ := p_soonR (s0 := s) (a := c) (t := t) ⟨b4, b6⟩ hb (by omega) (by omega) (by omega)
  have rcg : RE (tin τ K) K n h g := RE_trans b2 b3 (RE_wy c2 s100_r b5)
  have Xg : LX τ K g := LX_S ⟨b4, b6⟩ c2 s100_r
  rw [b1, Option.bind_some, c1, Option.bind_some, show ix (nI b) = b from nI_clamp (by omega), show ix (nI s) = s from nI_clamp (by omega), show ix (nI c) = c from nI_clamp (by omega), show ix (nI t) = t from nI_clamp (by omega), show ix (nI m) = m from nI_clamp (by omega)]
  unfold wyO
  cases eu : snO (tin τ K) K b s c t with
  | none =>
    rw [if_pos (show oI none = -1 from rfl)]
    exact ⟨g, rfl, rcg⟩
  | some u =>
    obtain ⟨u1, u2, u3⟩ := snF_b _ _ _ eu
    show ∃ h2, _ = some (oI (if s ≤ m ∧ m ≤ u then some (wcl (tin τ K) K b s c t u (m - s)) else none), h2) ∧ _
    rw [show oI (some u) = nI u from rfl, if_neg (nI_m1 (by omega)), p_lies, Option.bind_some]
    by_cases z : s ≤ m ∧ m ≤ u
    · have w1 : wi (nI m) (nI s) (nI u) = 1 := wi_1.mpr ⟨nI_le z.1 (by omega), nI_le z.2 (by omega)⟩
      rw [w1, if_neg (show ¬ (1 : Int32) = 0 by decide), if_pos z]
      obtain ⟨g2, d1, d2⟩ := p_wa60 (t := t) (m := m) (u := u) Xg hb (by omega) (by omega) u1 (by omega) u3 z.1 z.2 (c3 u eu) (u + 1 - s) (u + 1) g (by omega) (Nat.le_refl _) (eqO_refl _ _) (fun s2 d e1 e2 => absurd e1 (by omega))
      rw [show nI (u + 1) - 1 = nI u by rw [show (1 : Int32) = nI 1 from rfl, nI_sub (by omega), Nat.add_sub_cancel]] at d1
      exact ⟨g2, d1, RE_trans rcg.1 rcg.2.1 (RE_wy d2 s101_r rcg.2.2)⟩
    · have w0 : wi (nI m) (nI s) (nI u) = 0 := by
        rcases wi_or (nI m) (nI s) (nI u) with y | y
        · exact y
        · have := wi_1.mp y
          rw [nI_leI (by omega) (by omega), nI_leI (by omega) (by omega)] at this
          exact absurd this z
      rw [w0, if_pos rfl, if_neg z]
      exact ⟨g, rfl, rcg⟩
theorem Q_way (n : Nat) (x1 x2 x3 x4 x5 : Int32) (h : Hp) (_ : n < 512) (hi : Inv n h) : ∃ h2, q_way x1 x2 x3 x4 x5 h = some h2 ∧ Inv (n + 1) h2 := ask hi (aWay x1 x2 x3 x4 x5) (fun _ _ X => C_way x1 x2 x3 x4 x5 X) (fun _ _ _ _ X rc => R_way x1 x2 x3 x4 x5 X rc)
