/-! taken, most -/
theorem bsN_le (T : TF) (K : Nat → Int32) : ∀ n, bsN T K n ≤ n
  | 0 => Nat.le_refl _
  | n + 1 => by
    unfold bsN
    have := bsN_le T K n
    split <;> omega
def s56 (j : Nat) : Bool := decide (j = 50) || decide (j = 56)
theorem s56_no {j : Nat} (h : j ≠ 50) (h2 : j ≠ 56) : s56 j = false := by
  unfold s56
  rw [decide_eq_false h, decide_eq_false h2]
  rfl
theorem s56_sC (j : Nat) (h : sC j = false) : s56 j = false := by
  unfold sC at h
  simp only [Bool.and_eq_false_iff, decide_eq_false_iff_not] at h
  exact s56_no (by omega) (by omega)
theorem QM_s {τ : Nat → TF} {K : Nat → Int32} {g g2 : Hp} (X : QM τ K g) (E : eqO s56 g g2) (e50 : ∀ q, q ≠ 13 → hI g2 50 q = hI g 50 q) (e56 : ∀ q, q ≤ 20 → hL g2 56 q = hL g 56 q ∨ hL g2 56 q = tk (tin τ K) (mk pF K) q) : QM τ K g2 := by
  obtain ⟨st, rg, rw0, lw, cm⟩ := X
  have f : ∀ j, j ≠ 50 → j ≠ 56 → hI g2 j = hI g j := fun j h1 h2 => (E.2 j (s56_no h1 h2)).1
  have hr := hR_of E.1
  have cm' := cm
  obtain ⟨c9, c10, c11, c12, c56, -⟩ := cm'
  refine ⟨StP_eq E (fun j h1 h2 => s56_no (by omega) (by omega)) st, rg, RW_eq E.1 rw0, LW_eq E (fun j hj _ => s56_no (by have : 114 ≤ j := hj; omega) (by have : 114 ≤ j := hj; omega)) lw, CM_rest cm (fun j h1 h2 => f j (by omega) (by omega)) ?_ ?_ ?_ ?_ ?_⟩
  · unfold C9 TdOK; rw [e50 9 (by decide), f 54 (by decide) (by decide)]; exact c9
  · unfold C10; rw [e50 10 (by decide), e50 9 (by decide), f 57 (by decide) (by decide)]; exact c10
  · unfold C11; rw [e50 11 (by decide), hr]
    rcases c11 with c | ⟨a, s, b, d⟩
    · exact Or.inl c
    · exact Or.inr ⟨a, s, b, by rw [f s (by have : 114 ≤ s := (rw0.1 s b).1; omega) (by have : 114 ≤ s := (rw0.1 s b).1; omega)]; exact d⟩
  · unfold C12; rw [e50 12 (by decide), hr]
    rcases c12 with c | ⟨n, a1, a2, a3, s, b, d⟩
    · exact Or.inl c
    · refine Or.inr ⟨n, a1, a2, ?_, s, b, by rw [f s (by have : 114 ≤ s := (rw0.2.1 s b).1; omega) (by have : 114 ≤ s := (rw0.2.1 s b).1; omega)]; exact d⟩
      rcases e56 n a1 with z | z
      · rw [z]; exact a3
      · exact z
  · intro q hq
    rcases e56 q hq with z | z
    · rw [z]; exact c56 q hq
    · exact Or.inr z
theorem C13_eq {T : TF} {K : Nat → Int32} {h h1 : Hp} (e : hI h1 50 13 = hI h 50 13) (c : C13 T K h) : C13 T K h1 := by
  unfold C13
  rw [e]
  exact c
theorem p_takenBy {τ : Nat → TF} {K : Nat → Int32} {h : Hp} {n : Nat} (hn : n ≤ 20) (X : QX τ K h) : ∃ h1, s_Water_takenBy (nI n) h = some (tk (tin τ K) (mk pF K) n, h1) ∧ DQ h h1 ∧ QX τ K h1 := by
  unfold s_Water_takenBy s_Water_takenBy_18
  rw [ib_nI (by omega) (by decide), show ix (nI n) = n from nI_clamp (by omega), ib_nI (by omega) (by decide)]
  by_cases he : hL h 56 n = -1
  · rw [if_pos ((lg_cmp_eq _ _).mpr he)]
    obtain ⟨h1, a1, a2, a3, a4, a5, a6, -⟩ := p_drive hn (QM_of X)
    rw [a1, Option.bind_some, ib_nI (by omega) (by decide), a4]
    exact ⟨h1, rfl, a2, QX_ofM a3 (C13_eq a6 X.1.2.2.2.1.2.2.2.2.2.1)⟩
  · rw [if_neg (fun z => he ((lg_cmp_eq _ _).mp z))]
    rcases X.1.2.2.2.1.2.2.2.2.1 n hn with z | z
    · exact absurd z he
    · rw [z]
      exact ⟨h, rfl, DQ_refl X.1.2.2.1, X⟩
theorem p_best {τ : Nat → TF} {K : Nat → Int32} {h : Hp} (X : QX τ K h) : ∃ h1, s_Water_bestTurbines h = some (nI (bsN (tin τ K) (mk pF K) 20), h1) ∧ DQ h h1 ∧ QX τ K h1 := by
  have b20 := bsN_le (tin τ K) (mk pF K) 20
  by_cases he : hI h 50 13 = -1
  · have key : ∀ (q m : Nat) (g : Hp), m + q = 20 → DQ h g → QM τ K g → hI g 50 13 = nI (bsN (tin τ K) (mk pF K) m) → hL g 56 (bsN (tin τ K) (mk pF K) m) = tk (tin τ K) (mk pF K) (bsN (tin τ K) (mk pF K) m) → ∃ h1, lp (fun q : Int32 × Hp => s_Water_bestTurbines_27 q.1 q.2) (nI (m + 1), g) = some (nI (bsN (tin τ K) (mk pF K) 20), h1) ∧ DQ h h1 ∧ QX τ K h1 := by
      intro q
      induction q with
      | zero =>
        intro m g hm D M e13 e56
        have hm : m = 20 := by omega
        subst hm
        refine ⟨g, lp_inr ?_, D, QX_ofM M (Or.inr e13)⟩
        show s_Water_bestTurbines_27 (nI 21) g = _
        unfold s_Water_bestTurbines_27
        rw [if_pos (show (20 : Int32) < nI 21 by decide), e13]
      | succ q ih =>
        intro m g hm D M e13 e56
        have bm := bsN_le (tin τ K) (mk pF K) m
        have step : ∃ g2, DQ g g2 ∧ QM τ K g2 ∧ hI g2 50 13 = hI g 50 13 ∧ hL g2 56 (bsN (tin τ K) (mk pF K) m) = tk (tin τ K) (mk pF K) (bsN (tin τ K) (mk pF K) m) ∧ hL g2 56 (m + 1) = tk (tin τ K) (mk pF K) (m + 1) ∧ s_Water_bestTurbines_27 (nI (m + 1)) g = s_Water_bestTurbines_51 (nI (m + 1)) g2 := by
          unfold s_Water_bestTurbines_27
          rw [if_neg (by rw [show (20 : Int32) = nI 20 from rfl, nI_ltI (by decide) (by omega)]; omega), ib_nI (by omega) (by decide), show ix (nI (m + 1)) = m + 1 from nI_clamp (by omega)]
          by_cases hz : hL g 56 (m + 1) = -1
          · rw [if_pos ((lg_cmp_eq _ _).mpr hz)]
            obtain ⟨h1, a1, a2, a3, a4, a5, a6, -⟩ := p_drive (n := m + 1) (by omega) M
            exact ⟨h1, a2, a3, a6, (a5 _ (by omega)).trans e56, a4, by rw [a1, Option.bind_some]⟩
          · rw [if_neg (fun z => hz ((lg_cmp_eq _ _).mp z))]
            refine ⟨g, DQ_refl M.2.2.1, M, rfl, e56, ?_, rfl⟩
            rcases M.2.2.2.2.2.2.2.2.1 (m + 1) (by omega) with z | z
            · exact absurd z hz
            · exact z
        obtain ⟨g2, D2, M2, f13, f56, fm, ef⟩ := step
        have e51 : s_Water_bestTurbines_51 (nI (m + 1)) g2 = if tk (tin τ K) (mk pF K) (bsN (tin τ K) (mk pF K) m) < tk (tin τ K) (mk pF K) (m + 1) then some (.inl (nI (m + 2), sI g2 50 13 (nI (m + 1)))) else some (.inl (nI (m + 2), g2)) := by
          unfold s_Water_bestTurbines_51 s_Water_bestTurbines_75
          rw [ib_nI (by omega) (by decide), f13, e13, ib_nI (by omega) (by decide), show ix (nI (m + 1)) = m + 1 from nI_clamp (by omega), show ix (nI (bsN (tin τ K) (mk pF K) m)) = bsN (tin τ K) (mk pF K) m from nI_clamp (by omega), fm, f56, nI_1]
          by_cases z : tk (tin τ K) (mk pF K) (bsN (tin τ K) (mk pF K) m) < tk (tin τ K) (mk pF K) (m + 1)
          · rw [if_neg (by rw [lg_cmp_le]; exact Int64.not_le.mpr z), if_pos z]
          · rw [if_pos (by rw [lg_cmp_le]; exact Int64.not_lt.mp z), if_neg z]
        by_cases z : tk (tin τ K) (mk pF K) (bsN (tin τ K) (mk pF K) m) < tk (tin τ K) (mk pF K) (m + 1)
        · rw [if_pos z] at e51
          rw [lp_inl (s' := (nI (m + 2), sI g2 50 13 (nI (m + 1)))) (ef.trans e51)]
          have eb : bsN (tin τ K) (mk pF K) (m + 1) = m + 1 := by rw [bsN, if_pos z]
          have E : eqO s56 g2 (sI g2 50 13 (nI (m + 1))) := eqO_sI (eqO_refl _ _) (by decide)
          refine ih (m + 1) _ (by omega) (DQ_trans D (DQ_trans D2 (DQ_of (eqO_mono E s56_sC) M2.2.2.1))) (QM_s M2 E (fun q hq => by rw [hI_sI', if_neg (by omega)]) (fun q hq => Or.inl rfl)) ?_ ?_
          · rw [eb, hI_sI', if_pos ⟨rfl, rfl⟩]
          · rw [eb]; exact fm
        · rw [if_neg z] at e51
          rw [lp_inl (s' := (nI (m + 2), g2)) (ef.trans e51)]
          have eb : bsN (tin τ K) (mk pF K) (m + 1) = bsN (tin τ K) (mk pF K) m := by rw [bsN, if_neg z]
          refine ih (m + 1) _ (by omega) (DQ_trans D D2) M2 ?_ ?_
          · rw [eb, f13, e13]
          · rw [eb]; exact f56
    have E0 : eqO s56 h (sI (sL h 56 0 0) 50 13 0) := eqO_sI (eqO_sL (eqO_refl _ _) (by decide)) (by decide)
    have l56 : ∀ q, hL (sI (sL h 56 0 0) 50 13 0) 56 q = if q = 0 then 0 else hL h 56 q := fun q => by
      rw [hL_sI, hL_sL]
      rfl
    obtain ⟨h1, a1, a2, a3⟩ := key 20 0 (sI (sL h 56 0 0) 50 13 0) (by decide) (DQ_of (eqO_mono E0 s56_sC) X.1.2.2.1) (QM_s (QM_of X) E0 (fun q hq => by rw [hI_sI', if_neg (by omega)]; rfl) (fun q hq => by
      rw [l56]
      by_cases z : q = 0
      · rw [if_pos z, z, tk_0]; exact Or.inr rfl
      · rw [if_neg z]; exact Or.inl rfl)) (by rw [hI_sI', if_pos ⟨rfl, rfl⟩]; rfl) (by
      show hL (sI (sL h 56 0 0) 50 13 0) 56 0 = tk _ _ 0
      rw [l56, if_pos rfl, tk_0])
    refine ⟨h1, ?_, a2, a3⟩
    unfold s_Water_bestTurbines
    rw [if_pos he, ib_some _ (by decide) (by decide), show ix 0 = 0 by decide]
    exact a1
  · rcases X.1.2.2.2.1.2.2.2.2.2.1 with z | z
    · exact absurd z he
    · refine ⟨h, ?_, DQ_refl X.1.2.2.1, X⟩
      unfold s_Water_bestTurbines
      rw [if_neg he, z]
/-- the reference's -/
theorem RC_k {T : TF} {K : Nat → Int32} {n : Nat} {h h2 : Hp} (H : RC T K n h) (e1 : hI h2 84 1 = hI h 84 1) (e2 : hI h2 84 28 = hI h 84 28) (e97 : hI h2 97 = hI h 97) (e99 : hI h2 99 = hI h 99) : RC T K n h2 := by
  obtain ⟨v, hv, h1, h3, h4⟩ := H
  refine ⟨v, hv, by rw [e1]; exact h1, by rw [e2]; exact h3, ?_⟩
  rw [e1, e2, e97, e99]
  exact h4
def sTk (j : Nat) : Bool := decide (j = 84) || decide (j = 95) || decide (j = 96) || decide (j = 98)
theorem sTk_no {j : Nat} (h1 : j ≠ 84) (h2 : j ≠ 95) (h3 : j ≠ 96) (h4 : j ≠ 98) : sTk j = false := by
  unfold sTk
  rw [decide_eq_false h1, decide_eq_false h2, decide_eq_false h3, decide_eq_false h4]
  rfl
theorem sTk_of {j : Nat} (h : sTk j = false) : j ≠ 84 ∧ j ≠ 95 ∧ j ≠ 96 ∧ j ≠ 98 := by
  unfold sTk at h
  simp only [Bool.or_eq_false_iff, decide_eq_false_iff_not] at h
  exact ⟨h.1.1.1, h.1.1.2, h.1.2, h.2⟩
theorem p_otherR {τ : Nat → TF} {K : Nat → Int32} {h : Hp} {w gl tb : Int32} (X : RX τ K h) (hw : na w ≤ 40) (hg : na (1013 - gl) ≤ 100) (ht : na tb ≤ 20) : ∃ h1 h2, s_Mod_winds w h = some h1 ∧ RX τ K h1 ∧ s_Mod_flows 98 gl tb h1 = some h2 ∧ eqO sTk h h2 ∧ m84 asF h h2 ∧ RX τ K h2 ∧ ∀ i, i < 1440 → hI h2 98 i = fw (tin τ K) (mk pF K) (fun _ => w) gl tb i := by
  obtain ⟨h1, w1, w2, w3⟩ := p_windsR w h
  have X1 : RX τ K h1 := RX_eq X (w2.2 86 (by decide)).1
  obtain ⟨h2, f1, f2, f3, f4⟩ := p_flows (r := 98) (gl := gl) (tb := tb) (W := fun _ => w) X1 (nd_of (by decide) rfl) (by decide) w3 (fun _ _ => hw) hg ht
  refine ⟨h1, h2, w1, X1, f1, eqO_trans (eqO_mono w2 (fun j hj => decide_eq_false (sTk_of hj).2.2.1)) (eqO_mono f2 (fun j hj => by have := sTk_of hj; exact sGq_no this.1 this.2.1 this.2.2.2)), m84_trans (m84_of w2 (by decide)) f3, RX_eq X1 (f2.2 86 (sGq_no (by decide) (by decide) (by decide))).1, f4⟩
theorem p_takenByR {τ : Nat → TF} {K : Nat → Int32} {h : Hp} {n : Nat} (hn : n ≤ 20) (X : RX τ K h) : ∃ h2, s_Mod_takenBy (nI n) h = some (tk (tin τ K) (mk pF K) n, h2) ∧ eqO sTk h h2 ∧ m84 asF h h2 ∧ RX τ K h2 ∧ ∀ i, i < 1440 → hI h2 98 i = drv (tin τ K) (mk pF K) n i := by
  have t9 : s_Mod_term 9 h = some (mk pF K 39) := p_termK X (k := 9) (by decide)
  obtain ⟨h1, h2, a1, a2, a3, a4, a5, a6, a7⟩ := p_otherR (w := mk pF K 39) (gl := mk pF K 40) (tb := nI n) X (kf_wind X.2.1) (kf_glass X.2.1) (by rw [na_nI (by omega)]; exact hn)
  have t10 : s_Mod_term 10 h1 = some (mk pF K 40) := p_termK a2 (k := 10) (by decide)
  have key : ∀ (q m : Nat), m + q = 1440 → lp (fun q : Int32 × Int64 × Int32 × Hp => s_Mod_takenBy_30 q.1 q.2.1 q.2.2.1 q.2.2.2) (nI n, tkS (drv (tin τ K) (mk pF K) n) (nI n) m, nI m, h2) = some (tkS (drv (tin τ K) (mk pF K) n) (nI n) 1440, h2) := by
    intro q
    induction q with
    | zero =>
      intro m hm
      have hm : m = 1440 := by omega
      subst hm
      refine lp_inr ?_
      show s_Mod_takenBy_30 (nI n) (tkS (drv (tin τ K) (mk pF K) n) (nI n) 1440) (nI 1440) h2 = _
      unfold s_Mod_takenBy_30
      rw [if_pos (show (1440 : Int32) ≤ nI 1440 by decide)]
    | succ q ih =>
      intro m hm
      rw [lp_inl (s' := (nI n, tkS (drv (tin τ K) (mk pF K) n) (nI n) (m + 1), nI (m + 1), h2)) ?_]
      · exact ih (m + 1) (by omega)
      · show s_Mod_takenBy_30 (nI n) (tkS (drv (tin τ K) (mk pF K) n) (nI n) m) (nI m) h2 = _
        unfold s_Mod_takenBy_30
        rw [if_neg (by rw [show (1440 : Int32) = nI 1440 from rfl, nI_leI (by decide) (by omega)]; omega), ib_nI (by omega) (by decide), show ix (nI m) = m from nI_clamp (by omega), a7 m (by omega), p_size, Option.bind_some, lt_eq, nI_1]
        rfl
  refine ⟨h2, ?_, a4, a5, a6, a7⟩
  unfold s_Mod_takenBy
  rw [t9, Option.bind_some, a1, Option.bind_some, t10, Option.bind_some, a3, Option.bind_some, tk]
  exact key 1440 0 (by decide)
theorem sTk_Rf (j : Nat) (hj : sRf j = false) : sTk j = false := by
  have := sRf_of hj
  exact sTk_no (by omega) (by omega) (by omega) (by omega)
theorem asF_mn {h h2 : Hp} (m : m84 asF h h2) : m84 mnF h h2 := m84_mono m (fun k hk => by
  unfold mnF at hk
  simp only [Bool.or_eq_true, decide_eq_true_eq] at hk
  rcases hk with ((((rfl | rfl) | rfl) | rfl) | rfl) | rfl <;> decide)
theorem RE_tk {T : TF} {K : Nat → Int32} {n : Nat} {h h2 : Hp} (E : eqO sTk h h2) (m : m84 asF h h2) (rc : RC T K n h) : RE T K n h h2 := ⟨eqO_mono E sTk_Rf, asF_mn m, RC_k rc (m 1 (by decide)) (m 28 (by decide)) (E.2 97 (by decide)).1 (E.2 99 (by decide)).1⟩
def aTaken (x1 : Int32) (T : TF) (K : Nat → Int32) : Int64 := if wi x1 0 20 = 0 then -1 else tk T (mk pF K) (ix x1)
theorem askL {n : Nat} {h : Hp} (hi : Inv n h) {f g : Hp → Option (Int64 × Hp)} (a : TF → (Nat → Int32) → Int64) (C : ∀ τ K, QX τ K h → ∃ h1, f h = some (a (tin τ K) K, h1) ∧ CQ (tin τ K) K h h1)
    (R : ∀ τ K k h1, RX τ K h1 → RC (tin τ K) K k h1 → ∃ h2, g h1 = some (a (tin τ K) K, h2) ∧ RE (tin τ K) K k h1 h2) : ∃ h2, ((f h).bind fun u => (g u.2).bind fun w => if lg_cmp u.1 w.1 = 0 then some w.2 else none) = some h2 ∧ Inv (n + 1) h2 := by
  obtain ⟨τ, hi⟩ := hi
  obtain ⟨h1, e1, c⟩ := C (τ 0) (hI h 86) (QX_of hi)
  obtain ⟨h2, e2, r1, r2, r3⟩ := R (τ 0) (hI h 86) (n + 1) h1 (RX_of hi (CQ_86 c (by decide) (by decide))) (RC_CQ c hi.2.2.2.2.2.2.1)
  refine ⟨h2, ?_, τ, query_ok2 hi c ⟨r1, r2, r3⟩⟩
  rw [e1, Option.bind_some]
  show ((g h1).bind fun w => if lg_cmp (a (tin (τ 0) (hI h 86)) (hI h 86)) w.1 = 0 then some w.2 else none) = _
  rw [e2, Option.bind_some]
  exact if_pos ((lg_cmp_eq _ _).mpr rfl)
theorem Q_taken (n : Nat) (x1 : Int32) (h : Hp) (_ : n < 512) (hi : Inv n h) : ∃ h2, q_taken x1 h = some h2 ∧ Inv (n + 1) h2 := by
  refine askL hi (aTaken x1) (fun τ K X => ?_) (fun τ K k h1 X rc => ?_)
  · unfold s_Race_taken s_Race_taken_24 aTaken
    rw [p_within, Option.bind_some]
    by_cases hm : wi x1 0 20 = 0
    · rw [if_pos hm, if_pos hm]
      exact ⟨h, rfl, QX_CQ X (eqO_refl _ _) X⟩
    · obtain ⟨m, l1, rfl⟩ := wi_nat (b := 20) (by decide) (wi_n0 hm)
      obtain ⟨h1, a1, a2, a3⟩ := p_takenBy l1 X
      rw [if_neg hm, if_neg hm, a1, Option.bind_some, show ix (nI m) = m from nI_clamp (by omega)]
      exact ⟨h1, rfl, CQ_DQ a2 a3.1.2.2.2⟩
  · unfold s_Mod_taken s_Mod_taken_21 aTaken
    rw [p_lies, Option.bind_some]
    by_cases hm : wi x1 0 20 = 0
    · rw [if_pos hm, if_pos hm]
      exact ⟨h1, rfl, RE_refl rc⟩
    · obtain ⟨m, l1, rfl⟩ := wi_nat (b := 20) (by decide) (wi_n0 hm)
      obtain ⟨h2, a1, a2, a3, a4, a5⟩ := p_takenByR l1 X
      rw [if_neg hm, if_neg hm, a1, Option.bind_some, show ix (nI m) = m from nI_clamp (by omega)]
      exact ⟨h2, rfl, RE_tk a2 a3 rc⟩
def aMost (x1 x2 : Int32) (T : TF) (K : Nat → Int32) : Int32 := if x1 = 0 then nI (bsN T (mk pF K) 20) else if x1 = 1 then (if wi x2 0 1439 = 0 then -100000 else drv T (mk pF K) (bsN T (mk pF K) 20) (ix x2)) else -100000
theorem C_most {τ : Nat → TF} {K : Nat → Int32} {h : Hp} (x1 x2 : Int32) (X : QX τ K h) : ∃ h1, s_Race_most x1 x2 h = some (aMost x1 x2 (tin τ K) K, h1) ∧ CQ (tin τ K) K h h1 := by
  have b20 := bsN_le (tin τ K) (mk pF K) 20
  unfold s_Race_most s_Race_most_24 aMost
  by_cases h0 : x1 = 0
  · obtain ⟨h1, a1, a2, a3⟩ := p_best X
    rw [if_pos h0, if_pos h0, a1, Option.bind_some]
    exact ⟨h1, rfl, CQ_DQ a2 a3.1.2.2.2⟩
  rw [if_neg h0, if_neg h0]
  by_cases h1 : x1 = 1
  · rw [if_pos h1, if_pos h1, p_isMinuteC, Option.bind_some]
    by_cases hm : wi x2 0 1439 = 0
    · rw [if_pos hm, if_pos hm]
      exact ⟨h, rfl, QX_CQ X (eqO_refl _ _) X⟩
    · obtain ⟨m, l1, rfl⟩ := wi_nat (b := 1439) (by decide) (wi_n0 hm)
      obtain ⟨h1, a1, a2, a3⟩ := p_best X
      obtain ⟨h2, b1, b2, b3, b4, b5, b6, r, b7, b8, b9⟩ := p_drive b20 (QM_of a3)
      rw [if_neg hm, if_neg hm, a1, Option.bind_some]
      show ∃ h1_1, ((s_Water_drive (nI (bsN (tin τ K) (mk pF K) 20)) h1).bind _) = _ ∧ _
      rw [b1, Option.bind_some, b7, nn_some, ak_some b8, ln_of b8, ib_nI (by omega) (by decide), show ix (nI m) = m from nI_clamp (by omega), b9 m (by omega)]
      exact ⟨h2, rfl, CQ_DQ (DQ_trans a2 b2) (QX_ofM b3 (C13_eq b6 a3.1.2.2.2.1.2.2.2.2.2.1)).1.2.2.2⟩
  · rw [if_neg h1, if_neg h1]
    exact ⟨h, rfl, QX_CQ X (eqO_refl _ _) X⟩
theorem R_most25 {τ : Nat → TF} {K : Nat → Int32} {n : Nat} {h : Hp} (x1 x2 : Int32) (hx : x1 = 0 ∨ (x1 = 1 ∧ wi x2 0 1439 = 1)) (X : RX τ K h) (rc : RC (tin τ K) K n h) : ∃ h2, s_Mod_most_25 x1 x2 h = some (aMost x1 x2 (tin τ K) K, h2) ∧ RE (tin τ K) K n h h2 := by
  have b20 := bsN_le (tin τ K) (mk pF K) 20
  have key : ∀ (q m : Nat) (g : Hp), m + q = 20 → eqO sTk h g → m84 asF h g → ∃ h1, lp (fun q : Int32 × Int32 × Int32 × Int64 × Int32 × Hp => s_Mod_most_33 q.1 q.2.1 q.2.2.1 q.2.2.2.1 q.2.2.2.2.1 q.2.2.2.2.2) (x1, x2, nI (bsN (tin τ K) (mk pF K) m), tk (tin τ K) (mk pF K) (bsN (tin τ K) (mk pF K) m), nI (m + 1), g) = some (aMost x1 x2 (tin τ K) K, h1) ∧ eqO sTk h h1 ∧ m84 asF h h1 := by
    intro q
    induction q with
    | zero =>
      intro m g hm E M
      have hm : m = 20 := by omega
      subst hm
      have Xg : RX τ K g := RX_eq X (E.2 86 (by decide)).1
      rcases hx with rfl | ⟨rfl, hx2⟩
      · refine ⟨g, lp_inr ?_, E, M⟩
        show s_Mod_most_33 0 x2 (nI (bsN (tin τ K) (mk pF K) 20)) _ (nI 21) g = _
        unfold s_Mod_most_33 aMost
        rw [if_pos (show (20 : Int32) < nI 21 by decide), if_pos rfl, if_pos rfl]
      · obtain ⟨v, l1, rfl⟩ := wi_nat (b := 1439) (by decide) hx2
        obtain ⟨h2, a1, a2, a3, a4, a5⟩ := p_takenByR b20 Xg
        refine ⟨h2, lp_inr ?_, eqO_trans E a2, m84_trans M a3⟩
        show s_Mod_most_33 1 (nI v) (nI (bsN (tin τ K) (mk pF K) 20)) _ (nI 21) g = _
        unfold s_Mod_most_33 aMost
        rw [if_pos (show (20 : Int32) < nI 21 by decide), if_neg (by decide), if_neg (by decide), if_pos rfl, hx2, if_neg (by decide), a1, Option.bind_some, ib_nI (by omega) (by decide), show ix (nI v) = v from nI_clamp (by omega), a5 v (by omega)]
    | succ q ih =>
      intro m g hm E M
      have Xg : RX τ K g := RX_eq X (E.2 86 (by decide)).1
      obtain ⟨h2, a1, a2, a3, a4, a5⟩ := p_takenByR (n := m + 1) (by omega) Xg
      have e33 : s_Mod_most_33 x1 x2 (nI (bsN (tin τ K) (mk pF K) m)) (tk (tin τ K) (mk pF K) (bsN (tin τ K) (mk pF K) m)) (nI (m + 1)) g = if tk (tin τ K) (mk pF K) (bsN (tin τ K) (mk pF K) m) < tk (tin τ K) (mk pF K) (m + 1) then some (.inl (x1, x2, nI (m + 1), tk (tin τ K) (mk pF K) (m + 1), nI (m + 2), h2)) else some (.inl (x1, x2, nI (bsN (tin τ K) (mk pF K) m), tk (tin τ K) (mk pF K) (bsN (tin τ K) (mk pF K) m), nI (m + 2), h2)) := by
        unfold s_Mod_most_33 s_Mod_most_66
        rw [if_neg (by rw [show (20 : Int32) = nI 20 from rfl, nI_ltI (by decide) (by omega)]; omega), a1, Option.bind_some, nI_1]
        by_cases z : tk (tin τ K) (mk pF K) (bsN (tin τ K) (mk pF K) m) < tk (tin τ K) (mk pF K) (m + 1)
        · rw [if_pos ((lg_cmp_gt _ _).mpr z), if_pos z]
        · rw [if_neg (fun y => z ((lg_cmp_gt _ _).mp y)), if_neg z]
      by_cases z : tk (tin τ K) (mk pF K) (bsN (tin τ K) (mk pF K) m) < tk (tin τ K) (mk pF K) (m + 1)
      · rw [if_pos z] at e33
        have eb : bsN (tin τ K) (mk pF K) (m + 1) = m + 1 := by rw [bsN, if_pos z]
        rw [lp_inl e33]
        have := ih (m + 1) h2 (by omega) (eqO_trans E a2) (m84_trans M a3)
        rw [eb] at this
        exact this
      · rw [if_neg z] at e33
        have eb : bsN (tin τ K) (mk pF K) (m + 1) = bsN (tin τ K) (mk pF K) m := by rw [bsN, if_neg z]
        rw [lp_inl e33]
        have := ih (m + 1) h2 (by omega) (eqO_trans E a2) (m84_trans M a3)
        rw [eb] at this
        exact this
  have e0 : bsN (tin τ K) (mk pF K) 0 = 0 := rfl
  obtain ⟨h1, a1, a2, a3⟩ := key 20 0 h (by decide) (eqO_refl _ _) (m84_refl _ _)
  rw [e0, tk_0] at a1
  exact ⟨h1, a1, RE_tk a2 a3 rc⟩
theorem R_most {τ : Nat → TF} {K : Nat → Int32} {n : Nat} {h : Hp} (x1 x2 : Int32) (X : RX τ K h) (rc : RC (tin τ K) K n h) : ∃ h2, s_Mod_most x1 x2 h = some (aMost x1 x2 (tin τ K) K, h2) ∧ RE (tin τ K) K n h h2 := by
  unfold s_Mod_most s_Mod_most_21
  rw [p_lies, Option.bind_some]
  by_cases hw : wi x1 0 1 = 0
  · rw [if_pos hw]
    have h0 : ¬ x1 = 0 := by rintro rfl; exact absurd hw (by decide)
    have h1 : ¬ x1 = 1 := by rintro rfl; exact absurd hw (by decide)
    unfold aMost
    rw [if_neg h0, if_neg h1]
    exact ⟨h, rfl, RE_refl rc⟩
  rw [if_neg hw]
  obtain ⟨w, l3, rfl⟩ := wi_nat (b := 1) (by decide) (wi_n0 hw)
  rcases (show w = 0 ∨ w = 1 by omega) with rfl | rfl
  · rw [if_neg (by decide)]
    exact R_most25 _ _ (Or.inl rfl) X rc
  · rw [if_pos (by decide), p_isMinuteR, Option.bind_some]
    by_cases hm : wi x2 0 1439 = 0
    · rw [if_pos hm]
      unfold aMost
      rw [if_neg (by decide), if_pos (by decide), if_pos hm]
      exact ⟨h, rfl, RE_refl rc⟩
    · rw [if_neg hm]
      exact R_most25 _ _ (Or.inr ⟨rfl, wi_n0 hm⟩) X rc
theorem Q_most (n : Nat) (x1 x2 : Int32) (h : Hp) (_ : n < 512) (hi : Inv n h) : ∃ h2, q_most x1 x2 h = some h2 ∧ Inv (n + 1) h2 := ask hi (aMost x1 x2) (fun _ _ X => C_most x1 x2 X) (fun _ _ _ _ X rc => R_most x1 x2 X rc)
