/-! a question's two halves; level -/
def CQ (T : TF) (K : Nat → Int32) (h h1 : Hp) : Prop := Fr sC h h1 ∧ hR h1 50 8 = hR h 50 8 ∧ (∀ r, hR h 50 8 = some r → hI h1 r = hI h r) ∧ RW h1 ∧ hN h1 ≤ hN h + 1 ∧ hS h1 ≤ hS h + 8640 ∧ CC T K h1
def RQ (T : TF) (K : Nat → Int32) (n : Nat) (h1 h2 : Hp) : Prop := eqO sRf h1 h2 ∧ m84 mnF h1 h2 ∧ RC T K (n + 1) h2
theorem query_ok2 {τ : Nat → Nat → TF} {n : Nat} {h h1 h2 : Hp} (hi : InvT τ n h) (c : CQ (tin (τ 0) (hI h 86)) (hI h 86) h h1) (r : RQ (tin (τ 0) (hI h 86)) (hI h 86) n h1 h2) : InvT τ (n + 1) h2 :=
  query_ok hi c.1 c.2.1 c.2.2.1 c.2.2.2.1 c.2.2.2.2.1 c.2.2.2.2.2.1 c.2.2.2.2.2.2 r.1 r.2.1 r.2.2
theorem CQ_of {T : TF} {K : Nat → Int32} {h h1 : Hp} (E : eqO sC h h1) (rw0 : RW h) (cc : CC T K h1) : CQ T K h h1 :=
  ⟨Fr_of E sC_ns, by rw [hR_of E.1], fun r hr => (E.2 r (sC_ns r (rw0.2.2.1 r hr).1)).1, RW_eq E.1 rw0, by rw [hN_of E.1]; omega, by rw [hS_of E.1]; omega, cc⟩
/-- what a class's method may count on -/
def CX (T : TF) (K : Nat → Int32) (h : Hp) : Prop := StP K h 1 ∧ Rg K ∧ RW h ∧ CC T K h
theorem kf_sea {K : Nat → Int32} {h : Hp} (H : StP K h 1) : ∀ i, i < 6 → hI h 2 i = mk pF K i := fun i hi => by
  rw [mk_at (decide_eq_true (by omega))]; exact StP_at H (by omega) (pl_sea i hi)
theorem kf_moon {K : Nat → Int32} {h : Hp} (H : StP K h 1) : ∀ i, i < 24 → hI h 3 i = mk pF K (6 + i) := fun i hi => by
  rw [mk_at (decide_eq_true (by omega))]; exact StP_at H (by omega) (pl_moon i hi)
theorem kf_term {K : Nat → Int32} {h : Hp} (H : StP K h 1) : ∀ i, i < 11 → hI h 4 i = mk pF K (30 + i) := fun i hi => by
  rw [mk_at (decide_eq_true (by omega))]; exact StP_at H (by omega) (pl_term i hi)
theorem Rg_per {K : Nat → Int32} (H : Rg K) {e k : Nat} (he : e ≤ 1) (hk : k < 4) : 60 ≤ K (7 + 12 * e + 3 * k) ∧ K (7 + 12 * e + 3 * k) ≤ 2000 := by
  have := Rg_int H (j := 6 + 12 * e + 3 * k + 1) (by omega) (rj_moon e (by omega) k hk 1 (by decide))
  rw [show 6 + 12 * e + 3 * k + 1 = 7 + 12 * e + 3 * k by omega] at this
  exact this
theorem kf_per {K : Nat → Int32} (H : Rg K) : ∀ e k, e ≤ 1 → k < 4 → 0 < mk pF K (7 + 12 * e + 3 * k) := fun e k he hk => by
  rw [mk_at (decide_eq_true (by omega))]
  exact Int32.lt_of_lt_of_le (show (0 : Int32) < 60 by decide) (Rg_per H he hk).1
def sFT (j : Nat) : Bool := decide (j = 50) || decide (j = 54)
theorem p_ft {K : Nat → Int32} {h : Hp} (st : StP K h 1) (rg : Rg K) (c9 : C9 (mk pF K) h) : ∃ h1, s_Water_freshenTides h = some h1 ∧ eqO sFT h h1 ∧ hI h1 50 9 = 1 ∧ TdOK (mk pF K) h1 ∧ ∀ k, k ≠ 9 → hI h1 50 k = hI h 50 k := by
  rcases c9 with c | ⟨c1, c2⟩
  · refine ⟨_, p_freshenTides (kf_sea st) (kf_moon st) (kf_per rg) c, eqO_sI (eqO_wI (eqO_refl _ _) (by decide)) (by decide), by rw [hI_sI', if_pos ⟨rfl, rfl⟩], TdOK_row (f := hI h 54) ?_, fun k hk => ?_⟩
    · rw [hI_sI_ne (by decide), hI_wI]
    · rw [hI_sI', if_neg (by omega), hI_wI_ne (by decide)]
  · refine ⟨h, ?_, eqO_refl _ _, c1, c2, fun k _ => rfl⟩
    unfold s_Water_freshenTides
    rw [c1, if_neg (by decide)]
/-- more is worked out: of tides alone -/
theorem CC_ft {T : TF} {K : Nat → Int32} {h h1 : Hp} (rw0 : RW h) (E : eqO sFT h h1) (e9 : hI h1 50 9 = 1) (td_ : TdOK (mk pF K) h1) (ek : ∀ k, k ≠ 9 → hI h1 50 k = hI h 50 k) (H : CC T K h) : CC T K h1 := by
  obtain ⟨⟨c9, c10, c11, c12, c56, c13, c58, c78⟩, c69, c74⟩ := H
  have f : ∀ j, sFT j = false → hI h1 j = hI h j := fun j a => (E.2 j a).1
  have hr := hR_of E.1
  have frow : ∀ r, NS ≤ r → hI h1 r = hI h r := fun r z => f r (by
    have : 114 ≤ r := z
    unfold sFT; rw [decide_eq_false (p := r = 50) (by omega), decide_eq_false (p := r = 54) (by omega)]; rfl)
  refine ⟨⟨Or.inr ⟨e9, td_⟩, ?_, ?_, ?_, ?_, ?_, ?_, ?_⟩, C69_eq (f 69 (by decide)) (f 72 (by decide)) (f 73 (by decide)) rfl rfl c69, C74_eq (f 74 (by decide)) (f 77 (by decide)) rfl c74⟩
  · unfold C10; rw [ek 10 (by decide), f 57 (by decide)]
    rcases c10 with c | ⟨a, b, c⟩
    · exact Or.inl c
    · exact Or.inr ⟨a, e9, c⟩
  · unfold C11; rw [ek 11 (by decide), hr]
    rcases c11 with c | ⟨c1, r, c2, c3⟩
    · exact Or.inl c
    · exact Or.inr ⟨c1, r, c2, by rw [frow r (rw0.1 r c2).1]; exact c3⟩
  · unfold C12; rw [ek 12 (by decide), hr, (E.2 56 (by decide)).2]
    rcases c12 with c | ⟨n, c1, c2, c3, r, c4, c5⟩
    · exact Or.inl c
    · exact Or.inr ⟨n, c1, c2, c3, r, c4, by rw [frow r (rw0.2.1 r c4).1]; exact c5⟩
  · unfold C56; rw [(E.2 56 (by decide)).2]; exact c56
  · unfold C13; rw [ek 13 (by decide)]; exact c13
  · unfold C58; rw [f 58 (by decide), f 59 (by decide), f 60 (by decide)]; exact c58
  · unfold C78 ruOK; rw [f 78 (by decide), f 79 (by decide)]; exact c78
theorem sFT_sC (j : Nat) (h : sC j = false) : sFT j = false := by
  unfold sC at h
  simp only [Bool.and_eq_false_iff, decide_eq_false_iff_not] at h
  unfold sFT
  rw [decide_eq_false (p := j = 50) (by omega), decide_eq_false (p := j = 54) (by omega)]
  rfl
theorem StP_eq {K : Nat → Int32} {S : Nat → Bool} {h h1 : Hp} (E : eqO S h h1) (hs : ∀ j, 1 ≤ j → j < 15 → S j = false) (H : StP K h 1) : StP K h1 1 := StP_fr H (fun d hd => (E.2 (1 + d) (hs _ (by omega) (by omega))).1)
theorem sFT_15 (j : Nat) (_ : 1 ≤ j) (h : j < 15) : sFT j = false := by
  unfold sFT
  rw [decide_eq_false (p := j = 50) (by omega), decide_eq_false (p := j = 54) (by omega)]
  rfl
theorem CX_ft {T : TF} {K : Nat → Int32} {h : Hp} (X : CX T K h) : ∃ h1, s_Water_freshenTides h = some h1 ∧ eqO sFT h h1 ∧ CX T K h1 ∧ hI h1 50 9 = 1 ∧ TdOK (mk pF K) h1 := by
  obtain ⟨st, rg, rw0, cc⟩ := X
  obtain ⟨h1, e1, e2, e3, e4, e5⟩ := p_ft st rg cc.1.1
  exact ⟨h1, e1, e2, ⟨StP_eq e2 sFT_15 st, rg, RW_eq e2.1 rw0, CC_ft rw0 e2 e3 e4 e5 cc⟩, e3, e4⟩
theorem C_level {T : TF} {K : Nat → Int32} {h : Hp} (x1 x2 : Int32) (X : CX T K h) : ∃ h1, s_Race_level x1 x2 h = some (lvA (mk pF K) x1 x2, h1) ∧ CQ T K h h1 := by
  unfold lvA
  simp only [s_Race_level, s_Race_level_16, p_within, p_isMinuteC, Option.bind_some]
  by_cases ha : wi x1 0 1 = 0
  · rw [if_pos ha, if_pos ha]
    exact ⟨h, rfl, CQ_of (eqO_refl _ _) X.2.2.1 X.2.2.2⟩
  · rw [if_neg ha, if_neg ha]
    by_cases hb : wi x2 0 1439 = 0
    · rw [if_pos hb, if_pos hb]
      exact ⟨h, rfl, CQ_of (eqO_refl _ _) X.2.2.1 X.2.2.2⟩
    · rw [if_neg hb, if_neg hb]
      obtain ⟨k1, l1, rfl⟩ := wi_nat (b := 1) (by decide) (wi_n0 ha)
      obtain ⟨k2, l2, rfl⟩ := wi_nat (b := 1439) (by decide) (wi_n0 hb)
      obtain ⟨h1, e1, e2, X1, e3, e4⟩ := CX_ft X
      refine ⟨h1, ?_, CQ_of (eqO_mono e2 sFT_sC) X.2.2.1 X1.2.2.2⟩
      rw [e1, Option.bind_some, p_levelToday e4 (kf_sea X1.1) (kf_term X1.1) l1 (by omega), Option.bind_some, show ix (nI k1) = k1 from nI_clamp (by omega)]
theorem Lv_congr {K K2 : Nat → Int32} (hK : ∀ j, j < 30 → K2 j = K j) {e : Nat} (he : e ≤ 1) (m w g : Int32) : Lv K2 e m w g = Lv K e m w g := by
  unfold Lv
  rw [td_congr hK he m 4 (by decide), hK _ (by omega), hK _ (by omega)]
theorem kf_eq {K : Nat → Int32} {j : Nat} (hj : j < 41) : mk pF K j = K j := mk_at (decide_eq_true hj) K
theorem lvA_mk (K : Nat → Int32) (x1 x2 : Int32) : lvA (mk pF K) x1 x2 = lvA K x1 x2 := by
  unfold lvA
  by_cases ha : wi x1 0 1 = 0
  · rw [if_pos ha, if_pos ha]
  · rw [if_neg ha, if_neg ha, kf_eq (by decide), kf_eq (by decide), Lv_congr (fun j hj => kf_eq (by omega)) (wi_ix (b := 1) (by decide) ha).1]
theorem Inv_CX {τ : Nat → Nat → TF} {n : Nat} {h : Hp} (hi : InvT τ n h) : CX (tin (τ 0) (hI h 86)) (hI h 86) h := ⟨hi.1.1, hi.1.2.1, hi.2.2.2.2.1, hi.2.2.2.2.2.1⟩
theorem CQ_86 {T : TF} {K : Nat → Int32} {h h1 : Hp} (c : CQ T K h h1) {j : Nat} (hj : 83 ≤ j) (h2 : j < 114) : hI h1 j = hI h j := (c.1.1 j h2 (by unfold sC; rw [decide_eq_false (p := j ≤ 82) (by omega), Bool.and_false])).1
theorem RC_CQ {T : TF} {K : Nat → Int32} {n : Nat} {h h1 : Hp} (c : CQ T K h h1) (H : RC T K n h) : RC T K (n + 1) h1 := RC_eq H (by rw [CQ_86 c (by decide) (by decide)]) (by rw [CQ_86 c (by decide) (by decide)]) (CQ_86 c (by decide) (by decide)) (CQ_86 c (by decide) (by decide))
theorem Rg_per0 {K : Nat → Int32} (H : Rg K) : ∀ e k, e ≤ 1 → k < 4 → ¬ K (7 + 12 * e + 3 * k) = 0 := fun e k he hk z => by
  have := (Rg_per H he hk).1
  rw [z] at this
  exact absurd this (by decide)
theorem Q_level (n : Nat) (x1 x2 : Int32) (h : Hp) (_ : n < 512) (hi : Inv n h) : ∃ h2, q_level x1 x2 h = some h2 ∧ Inv (n + 1) h2 := by
  obtain ⟨τ, hi⟩ := hi
  obtain ⟨h1, e1, c⟩ := C_level x1 x2 (Inv_CX hi)
  have e86 : hI h1 86 = hI h 86 := CQ_86 c (by decide) (by decide)
  unfold q_level
  rw [e1, Option.bind_some]
  show ∃ h2, ((s_Mod_level x1 x2 h1).bind fun w => if lvA (mk pF (hI h 86)) x1 x2 = w then some h1 else none) = some h2 ∧ _
  rw [R_level x1 x2 h1 (by rw [e86]; exact Rg_per0 hi.1.2.1), Option.bind_some, e86, lvA_mk, if_pos rfl]
  exact ⟨_, rfl, τ, query_ok2 hi c ⟨eqO_refl _ _, m84_refl _ _, RC_CQ c hi.2.2.2.2.2.2.1⟩⟩
