/-! day -/
def sdN (a : Nat) : Nat → Nat
  | 0 => a
  | k + 1 => (1103 * sdN a k + 12345) % 1000003
def wdW (a k : Nat) : Int32 := nI (sdN a (k + 1) % 41) - 20
theorem sdN_b {a : Nat} (ha : a ≤ 1000000) : ∀ k, sdN a k ≤ 1000002
  | 0 => by show a ≤ _; omega
  | k + 1 => by
    unfold sdN
    have := Nat.mod_lt (1103 * sdN a k + 12345) (show 0 < 1000003 by decide)
    omega
theorem wdW_b (a k : Nat) : na (wdW a k) ≤ 40 := by
  unfold wdW
  have h := Nat.mod_lt (sdN a (k + 1)) (show 0 < 41 by decide)
  have e : na (nI (sdN a (k + 1) % 41)) ≤ 20 + 20 := by rw [na_nI (by omega)]; omega
  unfold na
  rw [Int32.toInt_sub, nI_toInt (by omega), show (20 : Int32).toInt = 20 by decide, Int.bmod_eq_of_le (by omega) (by omega)]
  omega
theorem sd_C {a : Nat} (ha : a ≤ 1000002) : z_rem (nI a * 1103 + 12345) 1000003 = nI ((1103 * a + 12345) % 1000003) := by
  rw [show (1103 : Int32) = nI 1103 from rfl, show (12345 : Int32) = nI 12345 from rfl, show (1000003 : Int32) = nI 1000003 from rfl, nI_mul, nI_add, nI_rem (by omega) (by decide), Nat.mul_comm a]
theorem div64 {a b : Nat} (ha : a < 2147483648) (hb : b < 2147483648) : (nI a).toInt64 / (nI b).toInt64 = (nI (a / b)).toInt64 := by
  apply Int64.toInt_inj.mp
  have h1 : a / b ≤ a := Nat.div_le_self a b
  rw [Int64.toInt_div_of_ne_right _ _ (by
    intro z
    have : (nI b).toInt64.toInt = (-1 : Int64).toInt := by rw [z]
    rw [Int32.toInt_toInt64, nI_toInt hb, show (-1 : Int64).toInt = -1 by decide] at this
    omega), Int32.toInt_toInt64, Int32.toInt_toInt64, Int32.toInt_toInt64, nI_toInt ha, nI_toInt hb, nI_toInt (by omega), Int.tdiv_eq_ediv_of_nonneg (by omega)]
  rfl
theorem mulN64 {a b : Nat} (h : a * b < 2147483648) : (nI a).toInt64 * (nI b).toInt64 = (nI (a * b)).toInt64 := by
  apply Int64.toInt_inj.mp
  by_cases hb : b = 0
  · subst hb
    rw [show (nI 0).toInt64 = 0 from rfl, Int64.mul_zero, Nat.mul_zero]
    rfl
  by_cases ha : a = 0
  · subst ha
    rw [show (nI 0).toInt64 = 0 from rfl, Int64.zero_mul, Nat.zero_mul]
    rfl
  have h1 : a ≤ a * b := Nat.le_mul_of_pos_right a (Nat.pos_of_ne_zero hb)
  have h2 : b ≤ a * b := Nat.le_mul_of_pos_left b (Nat.pos_of_ne_zero ha)
  rw [(nz_mul (a := (nI a).toInt64) (b := (nI b).toInt64) (A := a) (B := b) (by rw [nz_32, na_nI (by omega)]; exact Nat.le_refl _) (by rw [nz_32, na_nI (by omega)]; exact Nat.le_refl _) (by omega)).1, Int32.toInt_toInt64, Int32.toInt_toInt64, Int32.toInt_toInt64, nI_toInt (by omega), nI_toInt (by omega), nI_toInt h]
  exact (Int.natCast_mul a b).symm
theorem addN64 {a b : Nat} (h : a + b < 2147483648) : (nI a).toInt64 + (nI b).toInt64 = (nI (a + b)).toInt64 := by
  apply Int64.toInt_inj.mp
  rw [lg_i2l_add, Int32.toInt_toInt64, nI_toInt (by omega), nI_toInt (by omega), nI_toInt h]
  exact (Int.natCast_add a b).symm
theorem subN64 {a b : Nat} (h : b ≤ a) (ha : a < 2147483648) : (nI a).toInt64 - (nI b).toInt64 = (nI (a - b)).toInt64 := by
  apply Int64.toInt_inj.mp
  rw [lg_i2l_sub, Int32.toInt_toInt64, nI_toInt (by omega), nI_toInt (by omega), nI_toInt (by omega)]
  omega
theorem rem64 {a b : Nat} (ha : a < 2147483648) (hb : b < 2147483648) : z_lrem (nI a).toInt64 (nI b).toInt64 = (nI (a % b)).toInt64 := by
  unfold z_lrem
  have h1 := Nat.div_mul_le_self a b
  rw [div64 ha hb, mulN64 (by omega), subN64 h1 ha]
  congr 2
  have := Nat.div_add_mod a b
  rw [Nat.mul_comm] at this
  omega
theorem sd_R {a : Nat} (ha : a ≤ 1000002) : Int64.toInt32 (z_lrem (1103 * (nI a).toInt64 + 12345) 1000003) = nI ((1103 * a + 12345) % 1000003) := by
  rw [show (1103 : Int64) = (nI 1103).toInt64 by decide, show (12345 : Int64) = (nI 12345).toInt64 by decide, show (1000003 : Int64) = (nI 1000003).toInt64 by decide, mulN64 (by omega), addN64 (by omega), rem64 (by omega) (by decide), l2i]
theorem wd_w {a k : Nat} (ha : a ≤ 1000000) : z_rem (nI (sdN a (k + 1))) 41 - 20 = wdW a k := by
  have := sdN_b ha (k + 1)
  rw [show (41 : Int32) = nI 41 from rfl, nI_rem (by omega) (by decide)]
  rfl
theorem p_drawDay {τ : Nat → TF} {K : Nat → Int32} {h : Hp} {a : Nat} (ha : a ≤ 1000000) (X : QX τ K h) : ∃ r h0 h2, s_Water_drawDay (nI a) h = some h2 ∧ eqO (fun j => decide (j = 55)) h h0 ∧ MF τ K 8 r h0 h2 ∧ ∀ i, i < 1440 → hI h2 r i = fw (tin τ K) (mk pF K) (wdW a) (mk pF K 40) 0 i := by
  have key : ∀ (q m : Nat) (g : Hp), m + q = 24 → eqO (fun j => decide (j = 55)) h g → (∀ i, i < m → hI g 55 i = wdW a i) → ∃ r h0 h2, lp (fun q : Int32 × Int32 × Hp => s_Water_drawDay_4 q.1 q.2.1 q.2.2) (nI (sdN a m), nI m, g) = some h2 ∧ eqO (fun j => decide (j = 55)) h h0 ∧ MF τ K 8 r h0 h2 ∧ ∀ i, i < 1440 → hI h2 r i = fw (tin τ K) (mk pF K) (wdW a) (mk pF K 40) 0 i := by
    intro q
    induction q with
    | zero =>
      intro m g hm E hw
      have hm : m = 24 := by omega
      subst hm
      have X0 := QX_55 X E
      obtain ⟨r, h1, h2, e1, e2, e4, e5, M, e6⟩ := p_mkrun (k := 8) (gl := mk pF K 40) (tb := 0) (W := wdW a) (by decide) X0.1.1 X0.1.2.1 X0.2 X0.1.2.2.1 X0.1.2.2.2.1.1 hw (fun i _ => wdW_b a i) (kf_glass X.1.2.1) (by decide)
      refine ⟨r, g, h2, lp_inr ?_, E, M, e6⟩
      show s_Water_drawDay_4 (nI (sdN a 24)) (nI 24) g = _
      unfold s_Water_drawDay_4
      rw [if_pos (show (24 : Int32) ≤ nI 24 by decide), e1, Option.bind_some, lt_eq, ib_some _ (by decide) (by decide), show ix 10 = 10 by decide, e2, nn_some, e4, kf_term X0.1.1 10 (by decide), e5, Option.bind_some]
    | succ q ih =>
      intro m g hm E hw
      obtain ⟨r, h0, h2, b1, b2, b3, b4⟩ := ih (m + 1) (sI g 55 m (wdW a m)) (by omega) (eqO_sI E (by decide)) (fun i hi => by
        rw [hI_sI']
        by_cases him : i = m
        · rw [if_pos ⟨rfl, him⟩, him]
        · rw [if_neg (fun z => him z.2)]; exact hw i (by omega))
      refine ⟨r, h0, h2, ?_, b2, b3, b4⟩
      rw [lp_inl (s' := (nI (sdN a (m + 1)), nI (m + 1), sI g 55 m (wdW a m))) ?_]
      · exact b1
      · show s_Water_drawDay_4 (nI (sdN a m)) (nI m) g = _
        unfold s_Water_drawDay_4
        rw [if_neg (by rw [show (24 : Int32) = nI 24 from rfl, nI_leI (by decide) (by omega)]; omega), sd_C (sdN_b ha m), lt_eq, ib_nI (by omega) (by decide), show ix (nI m) = m from nI_clamp (by omega), nI_1]
        show some (Sum.inl (nI (sdN a (m + 1)), nI (m + 1), sI g 55 m (z_rem (nI (sdN a (m + 1))) 41 - 20))) = _
        rw [wd_w ha]
  exact key 24 0 h (by decide) (eqO_refl _ _) (fun i hi => absurd hi (by omega))
def sDy (j : Nat) : Bool := decide (j = 84) || decide (j = 95) || decide (j = 96) || decide (j = 113)
theorem sDy_no {j : Nat} (h1 : j ≠ 84) (h2 : j ≠ 95) (h3 : j ≠ 96) (h4 : j ≠ 113) : sDy j = false := by
  unfold sDy
  rw [decide_eq_false h1, decide_eq_false h2, decide_eq_false h3, decide_eq_false h4]
  rfl
theorem sDy_of {j : Nat} (h : sDy j = false) : j ≠ 84 ∧ j ≠ 95 ∧ j ≠ 96 ∧ j ≠ 113 := by
  unfold sDy at h
  simp only [Bool.or_eq_false_iff, decide_eq_false_iff_not] at h
  exact ⟨h.1.1.1, h.1.1.2, h.1.2, h.2⟩
theorem p_dayR {τ : Nat → TF} {K : Nat → Int32} {h : Hp} {a : Nat} (ha : a ≤ 1000000) (X : RX τ K h) : ∃ h2, s_Mod_day (nI a) h = some (nI (slT (bS (fw (tin τ K) (mk pF K) (wdW a) (mk pF K 40) 0) (mk pF K)) 1440 0 0), h2) ∧ eqO sDy h h2 ∧ (∀ k, asF k = true → k ≠ 0 → k ≠ 1 → k ≠ 51 → hI h2 84 k = hI h 84 k) ∧ hI h2 84 0 = 0 ∧ hI h2 84 1 = hI h 84 1 + 1 ∧ hI h2 84 51 = 1 ∧ ∀ i, i < 1440 → hI h2 113 i = fw (tin τ K) (mk pF K) (wdW a) (mk pF K 40) 0 i := by
  have key : ∀ (q m : Nat) (g : Hp), m + q = 24 → eqO (fun j => decide (j = 96)) h g → (∀ i, i < m → hI g 96 i = wdW a i) → ∃ h2, lp (fun q : Int32 × Int32 × Hp => s_Mod_day_20 q.1 q.2.1 q.2.2) (nI (sdN a m), nI m, g) = some (nI (slT (bS (fw (tin τ K) (mk pF K) (wdW a) (mk pF K 40) 0) (mk pF K)) 1440 0 0), h2) ∧ eqO sDy h h2 ∧ (∀ k, asF k = true → k ≠ 0 → k ≠ 1 → k ≠ 51 → hI h2 84 k = hI h 84 k) ∧ hI h2 84 0 = 0 ∧ hI h2 84 1 = hI h 84 1 + 1 ∧ hI h2 84 51 = 1 ∧ ∀ i, i < 1440 → hI h2 113 i = fw (tin τ K) (mk pF K) (wdW a) (mk pF K 40) 0 i := by
    intro q
    induction q with
    | zero =>
      intro m g hm E hw
      have hm : m = 24 := by omega
      subst hm
      have X0 : RX τ K g := RX_eq X (E.2 86 (by decide)).1
      have t10 : s_Mod_term 10 g = some (mk pF K 40) := p_termK X0 (k := 10) (by decide)
      obtain ⟨h2, f1, f2, f3, f4⟩ := p_flows (r := 113) (gl := mk pF K 40) (tb := 0) (W := wdW a) X0 (nd_of (by decide) rfl) (by decide) hw (fun i _ => wdW_b a i) (kf_glass X.2.1) (by decide)
      have X3 : RX τ K (sI h2 84 51 1) := RX_eq X0 ((hI_sI_ne (by decide)).trans (f2.2 86 (sGq_no (by decide) (by decide) (by decide))).1)
      have sl := p_slackAt X3 (r := 113) (nd_of (by decide) rfl) (row := fw (tin τ K) (mk pF K) (wdW a) (mk pF K 40) 0) (fun i hi => by rw [hI_sI_ne (by decide)]; exact f4 i hi) (-1)
      have eneg : slA (fw (tin τ K) (mk pF K) (wdW a) (mk pF K 40) 0) (mk pF K) (-1) = .inr _ := slF_neg (by decide) 1440 0 0 (by decide)
      rw [eneg] at sl
      have m0 : m84 asF h h2 := m84_trans (m84_of E (by decide)) f3
      refine ⟨gdR (sI h2 84 51 1), lp_inr ?_, ?_, fun k hk k0 k1 k51 => ?_, ?_, ?_, ?_, fun i hi => ?_⟩
      · show s_Mod_day_20 (nI (sdN a 24)) (nI 24) g = _
        unfold s_Mod_day_20
        rw [if_pos (show (24 : Int32) ≤ nI 24 by decide), t10, Option.bind_some, f1, Option.bind_some, lt_eq, sl, Option.bind_some, p_goodR, Option.bind_some, sub_self2]
      · unfold gdR
        exact eqO_sI (eqO_sI (eqO_sI (eqO_trans (eqO_mono E (fun j hj => decide_eq_false (sDy_of hj).2.2.1)) (eqO_mono f2 (fun j hj => by have := sDy_of hj; exact sGq_no this.1 this.2.1 this.2.2.2))) (by decide)) (by decide)) (by decide)
      · unfold gdR
        rw [hI_sI', if_neg (by omega), hI_sI', if_neg (by omega), hI_sI', if_neg (by omega)]
        exact m0 k hk
      · unfold gdR
        rw [hI_sI', if_neg (by omega), hI_sI', if_pos ⟨rfl, rfl⟩]
      · unfold gdR
        rw [hI_sI', if_pos ⟨rfl, rfl⟩, hI_sI', if_neg (by omega), m0 1 (by decide)]
      · unfold gdR
        rw [hI_sI', if_neg (by omega), hI_sI', if_neg (by omega), hI_sI', if_pos ⟨rfl, rfl⟩]
      · unfold gdR
        rw [hI_sI_ne (by decide), hI_sI_ne (by decide), hI_sI_ne (by decide)]
        exact f4 i hi
    | succ q ih =>
      intro m g hm E hw
      obtain ⟨h2, b1, b2⟩ := ih (m + 1) (sI g 96 m (wdW a m)) (by omega) (eqO_sI E (by decide)) (fun i hi => by
        rw [hI_sI']
        by_cases him : i = m
        · rw [if_pos ⟨rfl, him⟩, him]
        · rw [if_neg (fun z => him z.2)]; exact hw i (by omega))
      refine ⟨h2, ?_, b2⟩
      rw [lp_inl (s' := (nI (sdN a (m + 1)), nI (m + 1), sI g 96 m (wdW a m))) ?_]
      · exact b1
      · show s_Mod_day_20 (nI (sdN a m)) (nI m) g = _
        unfold s_Mod_day_20
        rw [if_neg (by rw [show (24 : Int32) = nI 24 from rfl, nI_leI (by decide) (by omega)]; omega), sd_R (sdN_b ha m), lt_eq, ib_nI (by omega) (by decide), show ix (nI m) = m from nI_clamp (by omega), nI_1]
        show some (Sum.inl (nI (sdN a (m + 1)), nI (m + 1), sI g 96 m (z_rem (nI (sdN a (m + 1))) 41 - 20))) = _
        rw [wd_w ha]
  obtain ⟨h2, b1, b2⟩ := key 24 0 h (by decide) (eqO_refl _ _) (fun i hi => absurd hi (by omega))
  refine ⟨h2, ?_, b2⟩
  have w : wi (nI a) 0 1000000 = 1 := wi_nI (b := 1000000) ha (by decide)
  unfold s_Mod_day
  rw [p_lies, Option.bind_some, w, if_neg (by decide)]
  exact b1
theorem Q_day (n : Nat) (x1 : Int32) (h : Hp) (hn : n < 512) (hi : Inv n h) : ∃ h2, q_day x1 h = some h2 ∧ Inv (n + 1) h2 := by
  obtain ⟨τ, hi⟩ := hi
  unfold q_day
  by_cases hw : wi x1 0 1000000 = 0
  · have e1 : s_Race_day x1 h = some (-1, rfC h (-1)) := by
      unfold s_Race_day
      rw [p_within, Option.bind_some, if_pos hw, p_refuse, Option.bind_some]
    have e2 : s_Mod_day x1 (rfC h (-1)) = some (-1, rfR (rfC h (-1)) (-1)) := by
      unfold s_Mod_day
      rw [p_lies, Option.bind_some, if_pos hw, p_refR _ (Or.inl rfl), Option.bind_some]
    rw [e1, Option.bind_some]
    show ∃ h2, ((s_Mod_day x1 (rfC h (-1))).bind fun w => if (-1 : Int32) = w.1 then some w.2 else none) = some h2 ∧ _
    rw [e2, Option.bind_some, if_pos rfl]
    exact ⟨_, rfl, τ, refuse_ok hi (Or.inl rfl)⟩
  · obtain ⟨a, ha, rfl⟩ := wi_nat (b := 1000000) (by decide) (wi_n0 hw)
    obtain ⟨r, h0, h2, a1, a2, M, a3⟩ := p_drawDay ha (QX_of hi)
    have X0 := QX_55 (QX_of hi) a2
    have rw0 := X0.1.2.2.1
    have r114 : 114 ≤ r := M.2.2.2.2.2.2.1
    have e1 : s_Race_day (nI a) h = some (nI (slT (bS (fw (tin (τ 0) (hI h 86)) (mk pF (hI h 86)) (wdW a) (mk pF (hI h 86) 40) 0) (mk pF (hI h 86))) 1440 0 0), sI h2 0 12 0) := by
      unfold s_Race_day
      rw [p_within, Option.bind_some, if_neg hw, a1, Option.bind_some, M.2.2.2.1, nn_some, p_slacksOf M.2.2.2.2.2.2.2.2.2.2.1 M.2.2.2.2.2.2.2.1 a3, Option.bind_some, p_grant, Option.bind_some]
    have f0 : ∀ j, (j < 50 ∨ 55 < j) → j < 114 → hI h2 j = hI h j := fun j h1 h3 => (MF_58 M (by omega) h3).trans (a2.2 j (decide_eq_false (by omega))).1
    have f1 : ∀ j, j ≠ 0 → (j < 50 ∨ 55 < j) → j < 114 → hI (sI h2 0 12 0) j = hI h j := fun j hj h1 h3 => (hI_sI_ne hj).trans (f0 j h1 h3)
    obtain ⟨h3, b1, b2, b3, b4, b5, b6, b7⟩ := p_dayR ha (RX_of hi (h1 := sI h2 0 12 0) (f1 86 (by decide) (by decide) (by decide)))
    rw [e1, Option.bind_some]
    show ∃ h2_1, ((s_Mod_day (nI a) (sI h2 0 12 0)).bind fun w => if nI (slT (bS (fw (tin (τ 0) (hI h 86)) (mk pF (hI h 86)) (wdW a) (mk pF (hI h 86) 40) 0) (mk pF (hI h 86))) 1440 0 0) = w.1 then some w.2 else none) = some h2_1 ∧ _
    rw [b1, Option.bind_some, if_pos rfl]
    refine ⟨h3, rfl, τ, ?_⟩
    have hi0 := hi
    obtain ⟨sm, im, tp, ss, rw00, cc0, rc0, dr, rm, wd⟩ := hi0
    -- the frame over the whole call
    have F0 : Fr (fun j => sC j) h h2 := Fr_trans (Fr_of (eqO_mono a2 e55_sC) sC_ns) M.2.1
    have FT_ : Fr (fun j => sC j || decide (j = 0) || sDy j) h h3 := by
      refine Fr_trans (h1 := h2) ⟨fun j hj hs => F0.1 j hj ?_, F0.2⟩ (Fr_trans (h1 := sI h2 0 12 0) (Fr_of (eqO_sI (eqO_refl _ _) (by decide)) ?_) (Fr_of (eqO_mono b2 ?_) ?_))
      · simp only [Bool.or_eq_false_iff] at hs
        exact hs.1.1
      · intro j hj
        have : 114 ≤ j := hj
        rw [sC_ns j hj, decide_eq_false (p := j = 0) (by omega), sDy_no (by omega) (by omega) (by omega) (by omega)]
        rfl
      · intro j hj
        simp only [Bool.or_eq_false_iff] at hj
        exact hj.2
      · intro j hj
        have : 114 ≤ j := hj
        rw [sC_ns j hj, decide_eq_false (p := j = 0) (by omega), sDy_no (by omega) (by omega) (by omega) (by omega)]
        rfl
    have g : ∀ j, j ≠ 0 → (j < 50 ∨ 55 < j) → j < 113 → j ≠ 84 → j ≠ 95 → j ≠ 96 → hI h3 j = hI h j := fun j h1 h2 h4 h5 h6 h7 => ((b2.2 j (sDy_no h5 h6 h7 (by omega))).1).trans (f1 j h1 h2 (by omega))
    have k84 : ∀ k, asF k = true → k ≠ 0 → k ≠ 1 → k ≠ 51 → hI h3 84 k = hI h 84 k := fun k hk k0 k1 k51 => (b3 k hk k0 k1 k51).trans (by rw [f1 84 (by decide) (by decide) (by decide)])
    have e86 : hI h3 86 = hI h 86 := g 86 (by decide) (by decide) (by decide) (by decide) (by decide) (by decide)
    have hr3 : hR h3 = hR h2 := (hR_of b2.1).trans rfl
    have fC : eqC h2 h3 := ⟨b2.1.trans rfl, fun j hj => by
      have hj0 : j ≠ 0 ∧ sDy j = false := by
        rcases hj with hj | hj
        · exact ⟨by omega, sDy_no (by omega) (by omega) (by omega) (by omega)⟩
        · have : 114 ≤ j := hj
          exact ⟨by omega, sDy_no (by omega) (by omega) (by omega) (by omega)⟩
      exact ⟨((b2.2 j hj0.2).1).trans (hI_sI_ne hj0.1), (b2.2 j hj0.2).2⟩⟩
    have cc2 : CC (tin (τ 0) (hI h 86)) (hI h 86) h2 := by
      have c := X0.1.2.2.2
      refine CC_gen c (fun j h1 h2 => MF_58 M (by omega) (by omega)) (Or.inr ⟨M.2.2.2.2.2.2.2.2.2.2.2.1, M.2.2.2.2.2.2.2.2.2.2.2.2.1⟩) (MF_C10 M c.1.2.1) (MF_C11 M rw0 (Or.inr rfl) c.1.2.2.1) (MF_C12 M rw0 (Or.inr rfl) c.1.2.2.2.1) (MF_C56 M c.1.2.2.2.2.1) (MF_C13 M c.1.2.2.2.2.2.1)
    have imS : ∀ j, 16 ≤ j → j < 44 → (sC j || decide (j = 0) || sDy j) = false := fun j h1 h2 => by
      have : sC j = false := by
        unfold sC
        rw [decide_eq_false (p := 50 ≤ j) (by omega), Bool.false_and]
      rw [this, decide_eq_false (p := j = 0) (by omega), sDy_no (by omega) (by omega) (by omega) (by omega)]
      rfl
    unfold InvT
    rw [e86]
    refine ⟨SM_Fr FT_ (by decide) (by decide) sm, IM_Fr FT_ (by decide) (by decide) (by decide) imS im, TP_eq (g 45 (by decide) (by decide) (by decide) (by decide) (by decide) (by decide)) (g 46 (by decide) (by decide) (by decide) (by decide) (by decide) (by decide)) (g 90 (by decide) (by decide) (by decide) (by decide) (by decide) (by decide)) (k84 10 (by decide) (by decide) (by decide) (by decide)) tp, ?_, RW_eq fC.1 M.2.2.2.2.2.2.2.2.1, CC_eqC fC M.2.2.2.2.2.2.2.2.1 cc2, RC_bump rc0 hn (b5.trans (by rw [f1 84 (by decide) (by decide) (by decide)])) (k84 28 (by decide) (by decide) (by decide) (by decide)), ?_, ?_, WD_eq (g 89 (by decide) (by decide) (by decide) (by decide) (by decide) (by decide)) wd⟩
    · unfold SS at ss ⊢
      have z : ∀ k, hI h3 0 k = if k = 12 then 0 else hI h 0 k := fun k => by
        rw [(b2.2 0 (by decide)).1, hI_sI', f0 0 (by decide) (by decide)]
        by_cases hk : k = 12
        · rw [if_pos ⟨rfl, hk⟩, if_pos hk]
        · rw [if_neg (fun y => hk y.2), if_neg hk]
      rw [z, z, z, if_pos rfl, if_neg (by decide), if_neg (by decide), b4, k84 6 (by decide) (by decide) (by decide) (by decide), k84 11 (by decide) (by decide) (by decide) (by decide), g 83 (by decide) (by decide) (by decide) (by decide) (by decide) (by decide), g 85 (by decide) (by decide) (by decide) (by decide) (by decide) (by decide)]
      exact ⟨rfl, ss.2⟩
    · refine Or.inr ⟨r, by rw [hr3]; exact M.2.2.2.1, b6, fun m hm => ?_⟩
      rw [b7 m hm, (fC.2 r (Or.inr M.2.2.2.2.2.2.1)).1]
      exact a3 m hm
    · refine RM_eq (h := h) ?_ ?_ rm
      · rw [hN_of fC.1]
        have h1 := M.2.2.2.2.1
        have h2 := pN_le 8 h0
        have h3 := hN_of a2.1
        omega
      · rw [hS_of fC.1]
        have h1 := M.2.2.2.2.2.1
        have h2 := pSl_le 8 h0
        have h3 := hS_of a2.1
        omega
