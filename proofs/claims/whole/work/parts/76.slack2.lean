/-! slack -/
def aSlack (x1 x2 : Int32) (T : TF) (K : Nat → Int32) : Int32 := if wi x2 0 3 = 0 then -100000 else if x1 = -1 then nI (slT (bS (td0 T (mk pF K)) (mk pF K)) 1440 0 0) else
  match slA (td0 T (mk pF K)) (mk pF K) x1 with
  | .inr _ => -100000
  | .inl m => if x2 = 0 then nI m else if x2 = 1 then nI (slN (stl (td0 T (mk pF K)) (mk pF K)) (1440 - m) m - m) else if x2 = 2 then flA (mk pF K) (nI m) (mk pF K 39) (mk pF K 40) else nI (m - sgF (gtL (mk pF K)) m m m)
theorem C_slack {τ : Nat → TF} {K : Nat → Int32} {h : Hp} (x1 x2 : Int32) (X : QX τ K h) : ∃ h1, s_Race_slack x1 x2 h = some (aSlack x1 x2 (tin τ K) K, h1) ∧ CQ (tin τ K) K h h1 := by
  unfold s_Race_slack aSlack
  rw [p_within, Option.bind_some]
  by_cases hw : wi x2 0 3 = 0
  · rw [if_pos hw, if_pos hw]
    exact ⟨h, rfl, QX_CQ X (eqO_refl _ _) X⟩
  rw [if_neg hw, if_neg hw]
  obtain ⟨w, l3, rfl⟩ := wi_nat (b := 3) (by decide) (wi_n0 hw)
  obtain ⟨h1, a1, a2, a3, a4, a5, a6, a7⟩ := p_today X
  have n57 : nd h1 57 0 1440 := nd_of (by decide) rfl
  refine ⟨h1, ?_, QX_CQ X (eqO_mono a2 sTd_sC) a3⟩
  rw [a1, Option.bind_some]
  by_cases hx : x1 = -1
  · rw [if_pos hx, if_pos hx, p_slacksOf a3.1.1 n57 a7, Option.bind_some]
  rw [if_neg hx, if_neg hx, p_slackStart a3.1.1 n57 a7, Option.bind_some]
  cases hs : slA (td0 (tin τ K) (mk pF K)) (mk pF K) x1 with
  | inr n =>
    show (if (0 : Int32) ≤ -1 then _ else _) = _
    rw [if_neg (by decide)]
  | inl m =>
    have hm : m < 1440 := by have := slF_lt 1440 0 0 m hs; omega
    show (if (0 : Int32) ≤ nI m then _ else _) = _
    rw [if_pos (nI_pos' (by omega))]
    rcases (show w = 0 ∨ w = 1 ∨ w = 2 ∨ w = 3 by omega) with rfl | rfl | rfl | rfl
    · rw [if_pos (by decide)]
      rfl
    · rw [if_neg (by decide), if_pos (by decide)]
      show ((s_Water_slackLength 57 (nI m) h1).bind fun u4 => some (u4, h1)) = _
      rw [p_slackLen a3.1.1 n57 a7 hm, Option.bind_some]
      rfl
    · rw [if_neg (by decide), if_neg (by decide), if_pos (by decide)]
      have l0 : s_Water_levelToday 0 (nI m) h1 = some (Lv (mk pF K) 0 (nI m) (mk pF K 39) (mk pF K 40)) := p_levelToday a6 (kf_sea a3.1.1) (kf_term a3.1.1) (e := 0) (by decide) hm
      have l1 : s_Water_levelToday 1 (nI m) h1 = some (Lv (mk pF K) 1 (nI m) (mk pF K 39) (mk pF K 40)) := p_levelToday a6 (kf_sea a3.1.1) (kf_term a3.1.1) (e := 1) (by decide) hm
      show ((s_Water_levelToday 0 (nI m) h1).bind fun u5 => (s_Water_levelToday 1 (nI m) h1).bind fun u6 => some (u5 - u6, h1)) = _
      rw [l0, Option.bind_some, l1, Option.bind_some]
      rfl
    · rw [if_neg (by decide), if_neg (by decide), if_neg (by decide)]
      show ((s_Water_sinceGreatest (nI m) h1).bind fun u5 => some (u5, h1)) = _
      rw [p_since a3.1.2.1 a6 hm, Option.bind_some]
      rfl
theorem p_lv0 {τ : Nat → TF} {K : Nat → Int32} {h : Hp} (X : RX τ K h) {m : Nat} (hm : m < 1440) : s_Mod_level 0 (nI m) h = some (lv0 (mk pF K) m) := by
  rw [show (0 : Int32) = nI 0 from rfl, R_level _ _ h (by rw [X.1]; exact Rg_per0 X.2.1), X.1]
  unfold lvA
  have w1 : wi (nI 0) 0 1 = 1 := by decide
  have w2 : wi (nI m) 0 1439 = 1 := wi_nI (b := 1439) (by omega) (by decide)
  rw [w1, w2, if_neg (by decide), if_neg (by decide), show ix (nI 0) = 0 from rfl]
  unfold lv0
  rw [kf_eq (by decide), kf_eq (by decide), Lv_congr (fun j hj => kf_eq (by omega)) (by decide)]
theorem R_len {τ : Nat → TF} {K row : Nat → Int32} {h : Hp} {first : Nat} (X : RX τ K h) (hrow : ∀ i, i < 1440 → hI h 97 i = row i) (hf : first < 1440) : lp (fun q : Int32 × Int32 × Hp => s_Mod_slack_96 q.1 q.2.1 q.2.2) (nI first, nI first, h) = some (nI (slN (stl row (mk pF K)) (1440 - first) first - first), h) := by
  have t3 : s_Mod_term 3 h = some (mk pF K 33) := p_termK X (k := 3) (by decide)
  have key : ∀ (q m : Nat), m + q = 1440 → first ≤ m → lp (fun q : Int32 × Int32 × Hp => s_Mod_slack_96 q.1 q.2.1 q.2.2) (nI first, nI m, h) = some (nI (slN (stl row (mk pF K)) q m - first), h) := by
    intro q
    induction q with
    | zero =>
      intro m hm hl
      have hm : m = 1440 := by omega
      subst hm
      refine lp_inr ?_
      show s_Mod_slack_96 (nI first) (nI 1440) h = _
      unfold s_Mod_slack_96 s_Mod_slack_128
      rw [if_pos (show (1440 : Int32) ≤ nI 1440 by decide), nI_sub hl]
      rfl
    | succ q ih =>
      intro m hm hl
      have e5 : s_Mod_slack_96 (nI first) (nI m) h = if stl row (mk pF K) m then some (.inl (nI first, nI (m + 1), h)) else some (.inr (nI (m - first), h)) := by
        unfold s_Mod_slack_96 s_Mod_slack_128 stl
        rw [if_neg (by rw [show (1440 : Int32) = nI 1440 from rfl, nI_leI (by decide) (by omega)]; omega), ib_nI (by omega) (by decide), show ix (nI m) = m from nI_clamp (by omega), hrow m (by omega), p_size, Option.bind_some, t3, Option.bind_some, nI_1, nI_sub hl]
        by_cases z : szI (row m) ≤ mk pF K 33
        · rw [if_neg (Int32.not_lt.mpr z), decide_eq_true z]; rfl
        · rw [if_pos (Int32.not_le.mp z), decide_eq_false z]; rfl
      unfold slN
      by_cases hb : stl row (mk pF K) m = true
      · rw [if_pos hb] at e5 ⊢
        rw [lp_inl e5]
        exact ih (m + 1) (by omega) (by omega)
      · rw [if_neg hb] at e5 ⊢
        exact lp_inr e5
  exact key (1440 - first) first (by omega) (Nat.le_refl _)
theorem R_since {τ : Nat → TF} {K : Nat → Int32} {h : Hp} {first : Nat} (X : RX τ K h) (hf : first < 1440) : lp (fun q : Int32 × Int32 × Int32 × Hp => s_Mod_slack_141 q.1 q.2.1 q.2.2.1 q.2.2.2) (nI first, nI first, nI first - 1, h) = some (nI (first - sgF (gtL (mk pF K)) first first first), h) := by
  have key : ∀ (q best : Nat), q ≤ first → best ≤ first → q ≤ best → lp (fun q : Int32 × Int32 × Int32 × Hp => s_Mod_slack_141 q.1 q.2.1 q.2.2.1 q.2.2.2) (nI first, nI best, nI q - 1, h) = some (nI (first - sgF (gtL (mk pF K)) first q best), h) := by
    intro q
    induction q with
    | zero =>
      intro best h1 h2 h3
      refine lp_inr ?_
      show s_Mod_slack_141 (nI first) (nI best) (nI 0 - 1) h = _
      unfold s_Mod_slack_141 s_Mod_slack_183
      rw [if_pos (show nI 0 - 1 < 0 by decide), nI_sub h2]
      rfl
    | succ q ih =>
      intro best h1 h2 h3
      have z1 : nI q < nI first - 720 ↔ q + 720 < first := by
        rw [Int32.lt_iff_toInt_lt, nI_toInt (by omega), Int32.toInt_sub, nI_toInt (by omega), show (720 : Int32).toInt = 720 by decide, Int.bmod_eq_of_le (by omega) (by omega)]
        omega
      have e5 : s_Mod_slack_141 (nI first) (nI best) (nI (q + 1) - 1) h = if q + 720 < first then some (.inr (nI (first - best), h)) else some (.inl (nI first, nI (if gtL (mk pF K) q best then q else best), nI q - 1, h)) := by
        unfold s_Mod_slack_141 s_Mod_slack_183 s_Mod_slack_177
        rw [nI_pred, if_neg (nI_pos (by omega))]
        by_cases zz : q + 720 < first
        · rw [if_pos (z1.mpr zz), if_pos zz, nI_sub h2]
          rfl
        · rw [if_neg (fun w => zz (z1.mp w)), if_neg zz, p_lv0 X (by omega), Option.bind_some, p_lv0 X (by omega), Option.bind_some, Int32.sub_eq_add_neg]
          unfold gtL
          by_cases w : lv0 (mk pF K) q ≤ lv0 (mk pF K) best
          · rw [if_pos w, decide_eq_true w]; rfl
          · rw [if_neg w, decide_eq_false w]; rfl
      unfold sgF
      by_cases zz : q + 720 < first
      · rw [if_pos zz] at e5 ⊢
        exact lp_inr e5
      · rw [if_neg zz] at e5 ⊢
        rw [lp_inl e5]
        refine ih _ (by omega) ?_ ?_
        · split <;> omega
        · split <;> omega
  exact key first first (Nat.le_refl _) (Nat.le_refl _) (Nat.le_refl _)
theorem sub_self2 (a x : Int32) : a - (a - x) = x := by
  have h : x + (a - x) = a := by rw [Int32.add_comm, Int32.sub_add_cancel]
  have h2 : a - (a - x) = x + (a - x) - (a - x) := by rw [h]
  rw [h2, Int32.add_sub_cancel]
theorem R_slack {τ : Nat → TF} {K : Nat → Int32} {n : Nat} {h : Hp} (x1 x2 : Int32) (X : RX τ K h) (rc : RC (tin τ K) K n h) : ∃ h2, s_Mod_slack x1 x2 h = some (aSlack x1 x2 (tin τ K) K, h2) ∧ RE (tin τ K) K n h h2 := by
  obtain ⟨h2, b1, b2, b3, b4, b5, b6⟩ := p_looks X rc
  have n97 : nd h2 97 0 1440 := nd_of (by decide) rfl
  refine ⟨h2, ?_, b2, b3, b5⟩
  unfold s_Mod_slack aSlack s_Mod_slack_35
  rw [b1, Option.bind_some, p_lies, Option.bind_some, p_slackAt b4 n97 b6.1, Option.bind_some, p_slackAt b4 n97 b6.1, Option.bind_some]
  have eneg : slA (td0 (tin τ K) (mk pF K)) (mk pF K) (-1) = .inr (slT (bS (td0 (tin τ K) (mk pF K)) (mk pF K)) 1440 0 0) := slF_neg (by decide) 1440 0 0 (by decide)
  by_cases hx : x1 = -1
  · rw [if_pos hx]
    by_cases hw : wi x2 0 3 = 0
    · rw [if_pos hw, if_pos hw]
    · rw [if_neg hw, if_neg hw, if_pos hx, eneg]
      show some (-1 - (-1 - nI (slT (bS (td0 (tin τ K) (mk pF K)) (mk pF K)) 1440 0 0)), h2) = _
      rw [sub_self2]
  rw [if_neg hx]
  have e53 : ∀ s0 : Int32, s0 < 0 → s_Mod_slack_53 x2 s0 h2 = some (-100000, h2) := fun s0 z => by
    unfold s_Mod_slack_53 s_Mod_slack_67
    rw [if_pos z]
  have e53b : ∀ s0 : Int32, wi x2 0 3 = 0 → s_Mod_slack_53 x2 s0 h2 = some (-100000, h2) := fun s0 z => by
    unfold s_Mod_slack_53 s_Mod_slack_67
    by_cases y : s0 < 0
    · rw [if_pos y]
    · rw [if_neg y, p_lies, Option.bind_some, if_pos z]
  by_cases hw : wi x2 0 3 = 0
  · rw [if_pos hw, e53b _ hw, e53b _ hw]
    split <;> rfl
  rw [if_neg hw, if_neg hx]
  by_cases h0 : (0 : Int32) ≤ x1
  · rw [if_pos h0]
    cases hs : slA (td0 (tin τ K) (mk pF K)) (mk pF K) x1 with
    | inr q =>
      have hq : q ≤ 1440 := by
        have : ∀ r m n q, slF (bS (td0 (tin τ K) (mk pF K)) (mk pF K)) x1 r m n = .inr q → q ≤ n + r := by
          intro r
          induction r with
          | zero => intro m n q e; cases e; omega
          | succ r ih =>
            intro m n q e
            unfold slF at e
            split at e
            · split at e
              · cases e
              · have := ih _ _ _ e; omega
            · have := ih _ _ _ e; omega
        have := this 1440 0 0 q hs
        omega
      refine e53 _ ?_
      show -1 - nI q < 0
      rw [Int32.lt_iff_toInt_lt, Int32.toInt_sub, nI_toInt (by omega), show (-1 : Int32).toInt = -1 by decide, show (0 : Int32).toInt = 0 by decide, Int.bmod_eq_of_le (by omega) (by omega)]
      omega
    | inl m =>
      have hm : m < 1440 := by have := slF_lt 1440 0 0 m hs; omega
      obtain ⟨w, l3, rfl⟩ := wi_nat (b := 3) (by decide) (wi_n0 hw)
      show s_Mod_slack_53 (nI w) (nI m) h2 = _
      unfold s_Mod_slack_53
      rw [if_neg (nI_pos (by omega)), p_lies, Option.bind_some, if_neg hw]
      rcases (show w = 0 ∨ w = 1 ∨ w = 2 ∨ w = 3 by omega) with rfl | rfl | rfl | rfl
      · rw [if_pos (by decide)]
        rfl
      · rw [if_neg (by decide), if_neg (by decide), if_pos (by decide), R_len b4 b6.1 hm]
        rfl
      · rw [if_neg (by decide), if_pos (by decide), p_fall0 b4 hm, Option.bind_some]
        rfl
      · rw [if_neg (by decide), if_neg (by decide), if_neg (by decide), R_since b4 hm]
        rfl
  · rw [if_neg h0, e53 _ (by decide)]
    have hs : slA (td0 (tin τ K) (mk pF K)) (mk pF K) x1 = .inr _ := slF_neg (Int32.not_le.mp h0) 1440 0 0 (by decide)
    rw [hs]
theorem Q_slack (n : Nat) (x1 x2 : Int32) (h : Hp) (_ : n < 512) (hi : Inv n h) : ∃ h2, q_slack x1 x2 h = some h2 ∧ Inv (n + 1) h2 := ask hi (aSlack x1 x2) (fun _ _ X => C_slack x1 x2 X) (fun _ _ _ _ X rc => R_slack x1 x2 X rc)
