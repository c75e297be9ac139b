/-! ways: latest -/
def lRow (T : TF) (K : Nat → Int32) (b t lim s c : Nat) : Bool := ltB T K b t lim (lim - s) c
theorem lRow_lim (T : TF) (K : Nat → Int32) (b t lim c : Nat) : lRow T K b t lim lim c = (decide (c = t) && canB T K b c (10 * lim)) := by
  unfold lRow
  rw [Nat.sub_self, ltB]
theorem lRow_s {T : TF} {K : Nat → Int32} {b t lim s c : Nat} (hs : s < lim) : lRow T K b t lim s c = ((decide (c = t) || gB T K b s c (lRow T K b t lim (s + 1)) 5) && canB T K b c (10 * s)) := by
  unfold lRow
  rw [show lim - s = (lim - (s + 1)) + 1 by omega, ltB, show lim - (lim - (s + 1) + 1) = s by omega]
theorem p_la30 {τ : Nat → TF} {K : Nat → Int32} {b a t s lim : Nat} {h : Hp} (X : LX τ K h) (hb : b < 6) (ha : a < 50) (ht : t < 50) (hs : s ≤ lim) (hl : lim < 144) : ∀ (q c : Nat) (g : Hp), c + q = 50 → eqO s101 h g → LRm (lRow (tin τ K) K b t lim) (s + 1) lim g → (∀ d, d < c → hI g 101 (50 * s + d) = b01 (lRow (tin τ K) K b t lim s d)) → ∃ g2, lp (fun q : Int32 × Int32 × Int32 × Int32 × Int32 × Int32 × Hp => s_Mod_latest_30 q.1 q.2.1 q.2.2.1 q.2.2.2.1 q.2.2.2.2.1 q.2.2.2.2.2.1 q.2.2.2.2.2.2) (nI b, nI a, nI t, nI lim, nI s, nI c, g) = some (if lRow (tin τ K) K b t lim s a then .inr (nI s, g2) else .inl (nI b, nI a, nI t, nI lim, nI s + -1, g2)) ∧ eqO s101 h g2 ∧ LRm (lRow (tin τ K) K b t lim) s lim g2 := by
  intro q
  induction q with
  | zero =>
    intro c g hc E P R
    have hc : c = 50 := by omega
    subst hc
    refine ⟨g, lp_inr ?_, E, fun s2 c h1 h2 h3 => ?_⟩
    · show s_Mod_latest_30 (nI b) (nI a) (nI t) (nI lim) (nI s) (nI 50) g = _
      unfold s_Mod_latest_30
      rw [if_pos (show (50 : Int32) ≤ nI 50 by decide), i50, ib_nI (by omega) (by decide), show ix (nI (50 * s + a)) = 50 * s + a from nI_clamp (by omega), R a ha]
      cases lRow (tin τ K) K b t lim s a
      · rw [if_pos (show b01 false = 0 by decide)]; rfl
      · rw [if_neg (show ¬ b01 true = 0 by decide)]; rfl
    · by_cases z : s2 = s
      · rw [z]; exact R c h3
      · exact P s2 c (by omega) h2 h3
  | succ q ih =>
    intro c g hc E P R
    have hc2 : c < 50 := by omega
    have Xg := LX_S X E s101_r
    have e48 : lp (fun q : Int32 × Int32 × Int32 × Int32 × Int32 × Int32 × Int32 × Int32 × Hp => s_Mod_latest_53 q.1 q.2.1 q.2.2.1 q.2.2.2.1 q.2.2.2.2.1 q.2.2.2.2.2.1 q.2.2.2.2.2.2.1 q.2.2.2.2.2.2.2.1 q.2.2.2.2.2.2.2.2) (nI b, nI a, nI t, nI lim, nI s, nI c, b01 (decide (c = t)), nI 0, g) = some (.inl (nI b, nI a, nI t, nI lim, nI s, nI (c + 1), sI g 101 (50 * s + c) (b01 (lRow (tin τ K) K b t lim s c)))) := by
      by_cases z : s = lim
      · refine lp_inr ?_
        show s_Mod_latest_53 (nI b) (nI a) (nI t) (nI lim) (nI s) (nI c) (b01 (decide (c = t))) (nI 0) g = _
        unfold s_Mod_latest_53
        rw [if_neg (show ¬ (5 : Int32) ≤ nI 0 by decide), if_pos (by rw [z]; exact Int32.le_refl _), p_la122 Xg hb hc2 (by omega), z, lRow_lim]
        rfl
      · rw [lRow_s (by omega)]
        refine p_la53 Xg hb hc2 (by omega) hl P 5 0 _ (by omega) ?_
        unfold gB
        rw [List.range_zero, List.any_nil, Bool.or_false]
    have stp : s_Mod_latest_30 (nI b) (nI a) (nI t) (nI lim) (nI s) (nI c) g = some (.inl (nI b, nI a, nI t, nI lim, nI s, nI (c + 1), sI g 101 (50 * s + c) (b01 (lRow (tin τ K) K b t lim s c)))) := by
      rw [← e48]
      unfold s_Mod_latest_30 s_Mod_latest_48
      rw [if_neg (by rw [show (50 : Int32) = nI 50 from rfl, nI_leI (by decide) (by omega)]; omega)]
      by_cases z : c = t
      · rw [if_pos (by rw [z]), decide_eq_true z]; rfl
      · rw [if_neg (by rw [nI_eq (by omega) (by omega)]; exact z), decide_eq_false z]; rfl
    rw [lp_inl stp]
    refine ih (c + 1) _ (by omega) (eqO_sI E (by decide)) (fun s2 d h1 h2 h3 => ?_) (fun d hd => ?_)
    · rw [hI_sI', if_neg (by omega)]; exact P s2 d h1 h2 h3
    · rw [hI_sI']
      by_cases z : d = c
      · rw [if_pos ⟨rfl, by omega⟩, z]
      · rw [if_neg (by omega)]; exact R d (by omega)
theorem p_lastR {τ : Nat → TF} {K : Nat → Int32} {b a t lim : Nat} {h : Hp} (X : LX τ K h) (hb : b < 6) (ha : a < 50) (ht : t < 50) (hl : lim < 144) : ∃ h2, lp (fun q : Int32 × Int32 × Int32 × Int32 × Int32 × Hp => s_Mod_latest_22 q.1 q.2.1 q.2.2.1 q.2.2.2.1 q.2.2.2.2.1 q.2.2.2.2.2) (nI b, nI a, nI t, nI lim, nI lim, h) = some (oI (laO (tin τ K) K b a t lim), h2) ∧ eqO s101 h h2 := by
  have loop : ∀ (q j : Nat) (g : Hp), j + q = lim + 1 → eqO s101 h g → LRm (lRow (tin τ K) K b t lim) (lim + 1 - j) lim g → ∃ h2, lp (fun q : Int32 × Int32 × Int32 × Int32 × Int32 × Hp => s_Mod_latest_22 q.1 q.2.1 q.2.2.1 q.2.2.2.1 q.2.2.2.2.1 q.2.2.2.2.2) (nI b, nI a, nI t, nI lim, nI (lim + 1 - j) - 1, g) = some (oI ((snF (fun j => ltB (tin τ K) K b t lim j a) q j).map fun j => lim - j), h2) ∧ eqO s101 h h2 := by
    intro q
    induction q with
    | zero =>
      intro j g hj E P
      have hj : lim + 1 - j = 0 := by omega
      rw [hj]
      refine ⟨g, lp_inr ?_, E⟩
      show s_Mod_latest_22 (nI b) (nI a) (nI t) (nI lim) (nI 0 - 1) g = _
      unfold s_Mod_latest_22
      rw [if_pos (show nI 0 - 1 < 0 by decide)]
      rfl
    | succ q ih =>
      intro j g hj E P
      have e1 : nI (lim + 1 - j) - 1 = nI (lim - j) := by rw [show (1 : Int32) = nI 1 from rfl, nI_sub (by omega), show lim + 1 - j - 1 = lim - j by omega]
      rw [show lim + 1 - j = lim - j + 1 by omega] at P
      obtain ⟨g2, a1, a2, a3⟩ := p_la30 (a := a) (t := t) (s := lim - j) X hb ha ht (by omega) hl 50 0 g (by omega) E P (fun d hd => absurd hd (by omega))
      have stp : s_Mod_latest_22 (nI b) (nI a) (nI t) (nI lim) (nI (lim - j)) g = some (if lRow (tin τ K) K b t lim (lim - j) a then .inr (nI (lim - j), g2) else .inl (nI b, nI a, nI t, nI lim, nI (lim - j) + -1, g2)) := by
        unfold s_Mod_latest_22
        rw [if_neg (nI_pos (by omega))]
        exact a1
      have er : lRow (tin τ K) K b t lim (lim - j) a = ltB (tin τ K) K b t lim j a := by unfold lRow; rw [show lim - (lim - j) = j by omega]
      rw [e1, snF]
      rw [er] at stp
      cases e : ltB (tin τ K) K b t lim j a
      · rw [e, if_neg (show ¬ false = true by decide), ← Int32.sub_eq_add_neg] at stp
        rw [lp_inl stp, if_neg (show ¬ false = true by decide)]
        have := ih (j + 1) g2 (by omega) a2 (by rw [show lim + 1 - (j + 1) = lim - j by omega]; exact a3)
        rw [show lim + 1 - (j + 1) = lim - j by omega] at this
        exact this
      · rw [e, if_pos rfl] at stp
        rw [lp_inr stp, if_pos rfl]
        exact ⟨g2, rfl, a2⟩
  have := loop (lim + 1) 0 h (by omega) (eqO_refl _ _) (fun s2 c h1 h2 => absurd h1 (by omega))
  rw [Nat.sub_zero, show nI (lim + 1) - 1 = nI lim by rw [show (1 : Int32) = nI 1 from rfl, nI_sub (by omega), Nat.add_sub_cancel]] at this
  exact this
def aLatest (x1 x2 x3 x4 : Int32) (T : TF) (K : Nat → Int32) : Int32 := if wi x1 0 (K 185 - 1) = 0 then -1 else if wi x4 0 143 = 0 then -1 else if wi x2 0 49 = 0 then -1 else if wi x3 0 49 = 0 then -1 else oI (laO T K (ix x1) (ix x2) (ix x3) (ix x4))
theorem C_latest {τ : Nat → TF} {K : Nat → Int32} {h : Hp} (x1 x2 x3 x4 : Int32) (X : QX τ K h) : ∃ h1, s_Race_latest x1 x2 x3 x4 h = some (aLatest x1 x2 x3 x4 (tin τ K) K, h1) ∧ CQ (tin τ K) K h h1 := by
  unfold s_Race_latest s_Race_latest_30 aLatest
  rw [p_isBoatC X.1.1, Option.bind_some]
  by_cases h1 : wi x1 0 (K 185 - 1) = 0
  · rw [if_pos h1, if_pos h1]; exact ⟨h, rfl, QX_CQ X (eqO_refl _ _) X⟩
  rw [if_neg h1, if_neg h1, p_isCellC, Option.bind_some]
  by_cases h2 : wi x2 0 49 = 0
  · rw [if_pos h2, if_pos h2]
    refine ⟨h, ?_, QX_CQ X (eqO_refl _ _) X⟩
    split <;> rfl
  rw [if_neg h2, if_neg h2, p_isCellC, Option.bind_some]
  by_cases h3 : wi x3 0 49 = 0
  · rw [if_pos h3, if_pos h3]
    refine ⟨h, ?_, QX_CQ X (eqO_refl _ _) X⟩
    split <;> rfl
  rw [if_neg h3, if_neg h3, p_isStepC, Option.bind_some]
  by_cases h4 : wi x4 0 143 = 0
  · rw [if_pos h4, if_pos h4]; exact ⟨h, rfl, QX_CQ X (eqO_refl _ _) X⟩
  rw [if_neg h4, if_neg h4]
  obtain ⟨b, hb, rfl⟩ := boat_n X.1.2.1 (wi_n0 h1)
  obtain ⟨a, ha, rfl⟩ := wi_nat (b := 49) (by decide) (wi_n0 h2)
  obtain ⟨t, ht, rfl⟩ := wi_nat (b := 49) (by decide) (wi_n0 h3)
  obtain ⟨s, hs, rfl⟩ := wi_nat (b := 143) (by decide) (wi_n0 h4)
  obtain ⟨g1, g2, a1, a2, a3, a4⟩ := p_ways hb X
  rw [a1, Option.bind_some, a2, Option.bind_some, p_lastC a4 (by omega) (by omega) (by omega), Option.bind_some, show ix (nI b) = b from nI_clamp (by omega), show ix (nI s) = s from nI_clamp (by omega), show ix (nI a) = a from nI_clamp (by omega), show ix (nI t) = t from nI_clamp (by omega)]
  exact ⟨g2, rfl, QX_CQ X a3 a4.1.1⟩
theorem R_latest {τ : Nat → TF} {K : Nat → Int32} {n : Nat} {h : Hp} (x1 x2 x3 x4 : Int32) (X : RX τ K h) (rc : RC (tin τ K) K n h) : ∃ h2, s_Mod_latest x1 x2 x3 x4 h = some (aLatest x1 x2 x3 x4 (tin τ K) K, h2) ∧ RE (tin τ K) K n h h2 := by
  unfold s_Mod_latest aLatest
  rw [p_isWay X, Option.bind_some]
  by_cases h1 : wi x1 0 (K 185 - 1) = 0
  · rw [if_pos h1, if_pos h1, if_pos rfl]; exact ⟨h, rfl, RE_refl rc⟩
  rw [if_neg h1, if_neg h1]
  by_cases h2 : wi x4 0 143 = 0
  · rw [if_pos h2, if_pos h2, if_pos rfl]; exact ⟨h, rfl, RE_refl rc⟩
  rw [if_neg h2, if_neg h2]
  by_cases h3 : wi x2 0 49 = 0
  · rw [if_pos h3, if_pos h3, if_pos rfl]; exact ⟨h, rfl, RE_refl rc⟩
  rw [if_neg h3, if_neg h3]
  by_cases h4 : wi x3 0 49 = 0
  · rw [if_pos h4, if_pos h4, if_pos rfl]; exact ⟨h, rfl, RE_refl rc⟩
  rw [if_neg h4, if_neg h4, if_neg (show ¬ (1 : Int32) = 0 by decide)]
  obtain ⟨b, hb, rfl⟩ := boat_n X.2.1 (wi_n0 h1)
  obtain ⟨s, hs, rfl⟩ := wi_nat (b := 143) (by decide) (wi_n0 h2)
  obtain ⟨a, ha, rfl⟩ := wi_nat (b := 49) (by decide) (wi_n0 h3)
  obtain ⟨t, ht, rfl⟩ := wi_nat (b := 49) (by decide) (wi_n0 h4)
  obtain ⟨u, b1, b2, b3, b4, b5, b6⟩ := p_looks X rc
  obtain ⟨h2, c1, c2⟩ := p_lastR (a := a) (t := t) (lim := s) ⟨b4, b6⟩ hb (by omega) (by omega) (by omega)
  rw [b1, Option.bind_some, c1, show ix (nI b) = b from nI_clamp (by omega), show ix (nI s) = s from nI_clamp (by omega), show ix (nI a) = a from nI_clamp (by omega), show ix (nI t) = t from nI_clamp (by omega)]
  exact ⟨h2, rfl, RE_trans b2 b3 (RE_wy c2 s101_r b5)⟩
theorem Q_latest (n : Nat) (x1 x2 x3 x4 : Int32) (h : Hp) (_ : n < 512) (hi : Inv n h) : ∃ h2, q_latest x1 x2 x3 x4 h = some h2 ∧ Inv (n + 1) h2 := ask hi (aLatest x1 x2 x3 x4) (fun _ _ X => C_latest x1 x2 x3 x4 X) (fun _ _ _ _ X rc => R_latest x1 x2 x3 x4 X rc)
