/-! turbines; calm; late -/
theorem tkS_0 (row : Nat → Int32) : ∀ m, tkS row (nI 0) m = 0
  | 0 => rfl
  | m + 1 => by
    unfold tkS
    rw [tkS_0 row m, show (nI 0).toInt64 = 0 from rfl, Int64.zero_mul, Int64.zero_mul, Int64.zero_mul]
    rfl
theorem tk_0 (T : TF) (K : Nat → Int32) : tk T K 0 = 0 := tkS_0 _ 1440
/-- what is worked out, but for the best number of turbines -/
def CM (T : TF) (K : Nat → Int32) (h : Hp) : Prop := C9 (mk pF K) h ∧ C10 T (mk pF K) h ∧ C11 T (mk pF K) h ∧ C12 T (mk pF K) h ∧ C56 T (mk pF K) h ∧ C58 T (mk pF K) h ∧ C78 T (mk pF K) h ∧ C69 T K h ∧ C74 K h
theorem CM_of {T : TF} {K : Nat → Int32} {h : Hp} (c : CC T K h) : CM T K h := ⟨c.1.1, c.1.2.1, c.1.2.2.1, c.1.2.2.2.1, c.1.2.2.2.2.1, c.1.2.2.2.2.2.2.1, c.1.2.2.2.2.2.2.2, c.2.1, c.2.2⟩
theorem CC_of {T : TF} {K : Nat → Int32} {h : Hp} (c : CM T K h) (d : C13 T (mk pF K) h) : CC T K h := ⟨⟨c.1, c.2.1, c.2.2.1, c.2.2.2.1, c.2.2.2.2.1, d, c.2.2.2.2.2.1, c.2.2.2.2.2.2.1⟩, c.2.2.2.2.2.2.2.1, c.2.2.2.2.2.2.2.2⟩
def QM (τ : Nat → TF) (K : Nat → Int32) (h : Hp) : Prop := StP K h 1 ∧ Rg K ∧ RW h ∧ LW τ K h 1 ∧ CM (tin τ K) K h
theorem QM_of {τ : Nat → TF} {K : Nat → Int32} {h : Hp} (X : QX τ K h) : QM τ K h := ⟨X.1.1, X.1.2.1, X.1.2.2.1, X.2, CM_of X.1.2.2.2⟩
theorem QX_ofM {τ : Nat → TF} {K : Nat → Int32} {h : Hp} (X : QM τ K h) (d : C13 (tin τ K) (mk pF K) h) : QX τ K h := ⟨⟨X.1, X.2.1, X.2.2.1, CC_of X.2.2.2.2 d⟩, X.2.2.2.1⟩
theorem CM_rest {T : TF} {K : Nat → Int32} {h h1 : Hp} (H : CM T K h) (f : ∀ j, 58 ≤ j → j ≤ 82 → hI h1 j = hI h j) (c9 : C9 (mk pF K) h1) (c10 : C10 T (mk pF K) h1) (c11 : C11 T (mk pF K) h1) (c12 : C12 T (mk pF K) h1) (c56 : C56 T (mk pF K) h1) : CM T K h1 := by
  obtain ⟨-, -, -, -, -, c58, c78, c69, c74⟩ := H
  refine ⟨c9, c10, c11, c12, c56, ?_, ?_, C69_eq (f 69 (by decide) (by decide)) (f 72 (by decide) (by decide)) (f 73 (by decide) (by decide)) rfl rfl c69, C74_eq (f 74 (by decide) (by decide)) (f 77 (by decide) (by decide)) rfl c74⟩
  · unfold C58; rw [f 58 (by decide) (by decide), f 59 (by decide) (by decide), f 60 (by decide) (by decide)]; exact c58
  · unfold C78 ruOK; rw [f 78 (by decide) (by decide), f 79 (by decide) (by decide)]; exact c78
/-- many steps of the class that may make the row of the driven flow -/
def DQ (h h1 : Hp) : Prop := Fr sC h h1 ∧ hR h1 50 8 = hR h 50 8 ∧ (∀ r, hR h 50 8 = some r → hI h1 r = hI h r) ∧ RW h1 ∧ pN 7 h1 ≤ pN 7 h ∧ pSl 7 h1 ≤ pSl 7 h
theorem DQ_refl {h : Hp} (rw0 : RW h) : DQ h h := ⟨Fr_refl _ _, rfl, fun _ _ => rfl, rw0, Nat.le_refl _, Nat.le_refl _⟩
theorem DQ_trans {h h1 h2 : Hp} (a : DQ h h1) (b : DQ h1 h2) : DQ h h2 := ⟨Fr_trans a.1 b.1, b.2.1.trans a.2.1, fun r z => (b.2.2.1 r (a.2.1.trans z)).trans (a.2.2.1 r z), b.2.2.2.1, Nat.le_trans b.2.2.2.2.1 a.2.2.2.2.1, Nat.le_trans b.2.2.2.2.2 a.2.2.2.2.2⟩
theorem DQ_of {h h1 : Hp} (E : eqO sC h h1) (rw0 : RW h) : DQ h h1 := ⟨Fr_of E sC_ns, by rw [hR_of E.1], fun r hr => (E.2 r (sC_ns r (rw0.2.2.1 r hr).1)).1, RW_eq E.1 rw0, by unfold pN; rw [hN_of E.1, hR_of E.1]; exact Nat.le_refl _, by unfold pSl; rw [hS_of E.1, hR_of E.1]; exact Nat.le_refl _⟩
theorem CQ_DQ {T : TF} {K : Nat → Int32} {h h1 : Hp} (d : DQ h h1) (cc : CC T K h1) : CQ T K h h1 := by
  refine ⟨d.1, d.2.1, d.2.2.1, d.2.2.2.1, ?_, ?_, cc⟩
  · have := pN_le 7 h; have := pN_le 7 h1; have := d.2.2.2.2.1; omega
  · have := pSl_le 7 h; have := pSl_le 7 h1; have := d.2.2.2.2.2; omega
theorem eqO_55 {h : Hp} {f : Nat → Int32} : eqO (fun j => decide (j = 55)) h (wI h 55 f) := eqO_wI (eqO_refl _ _) (by decide)
theorem e55_sC (j : Nat) (h : sC j = false) : decide (j = 55) = false := by
  unfold sC at h
  simp only [Bool.and_eq_false_iff, decide_eq_false_iff_not] at h
  exact decide_eq_false (by omega)
theorem QM_55 {τ : Nat → TF} {K : Nat → Int32} {h h1 : Hp} (X : QM τ K h) (E : eqO (fun j => decide (j = 55)) h h1) : QM τ K h1 := by
  obtain ⟨st, rg, rw0, lw, cm⟩ := X
  have f : ∀ j, j ≠ 55 → hI h1 j = hI h j := fun j hj => (E.2 j (decide_eq_false hj)).1
  have hr := hR_of E.1
  have cm' := cm
  obtain ⟨c9, c10, c11, c12, c56, -⟩ := cm'
  refine ⟨StP_eq E (fun j h1 h2 => decide_eq_false (by omega)) st, rg, RW_eq E.1 rw0, LW_eq E (fun j hj _ => decide_eq_false (by have : 114 ≤ j := hj; omega)) lw, CM_rest cm (fun j h1 h2 => f j (by omega)) (C9_node (f 50 (by decide)) (f 54 (by decide)) c9) ?_ ?_ ?_ ?_⟩
  · unfold C10; rw [f 50 (by decide), f 57 (by decide)]; exact c10
  · unfold C11; rw [f 50 (by decide), hr]
    rcases c11 with c | ⟨a, s, b, d⟩
    · exact Or.inl c
    · exact Or.inr ⟨a, s, b, by rw [f s (by have : 114 ≤ s := (rw0.1 s b).1; omega)]; exact d⟩
  · unfold C12; rw [f 50 (by decide), hr, (E.2 56 (by decide)).2]
    rcases c12 with c | ⟨n, a1, a2, a3, s, b, d⟩
    · exact Or.inl c
    · exact Or.inr ⟨n, a1, a2, a3, s, b, by rw [f s (by have : 114 ≤ s := (rw0.2.1 s b).1; omega)]; exact d⟩
  · unfold C56; rw [(E.2 56 (by decide)).2]; exact c56
theorem p_takenFrom {row : Nat → Int32} {h : Hp} {r : Nat} (hr : hR h 50 7 = some r) (nr : nd h r 0 1440) (hrow : ∀ i, i < 1440 → hI h r i = row i) (n : Int32) : s_Water_takenFromDriven n h = some (tkS row n 1440) := by
  have key : ∀ (q m : Nat), m + q = 1440 → lp (fun q : Int32 × Int64 × Int32 => s_Water_takenFromDriven_5 q.1 q.2.1 q.2.2 h) (n, tkS row n m, nI m) = some (tkS row n 1440) := by
    intro q
    induction q with
    | zero =>
      intro m hm
      have hm : m = 1440 := by omega
      subst hm
      refine lp_inr ?_
      show s_Water_takenFromDriven_5 n (tkS row n 1440) (nI 1440) h = _
      unfold s_Water_takenFromDriven_5
      rw [if_pos (show (1440 : Int32) ≤ nI 1440 by decide)]
    | succ q ih =>
      intro m hm
      rw [lp_inl (s' := (n, tkS row n (m + 1), nI (m + 1))) ?_]
      · exact ih (m + 1) (by omega)
      · show s_Water_takenFromDriven_5 n (tkS row n m) (nI m) h = _
        unfold s_Water_takenFromDriven_5
        rw [if_neg (by rw [show (1440 : Int32) = nI 1440 from rfl, nI_leI (by decide) (by omega)]; omega), hr, nn_some, ak_some nr, ln_of nr, ib_nI (by omega) (by decide), show ix (nI m) = m from nI_clamp (by omega), hrow m (by omega), z_abs_eq, lt_eq, nI_1]
        rfl
  exact key 1440 0 (by decide)
theorem p_drive {τ : Nat → TF} {K : Nat → Int32} {h : Hp} {n : Nat} (hn : n ≤ 20) (X : QM τ K h) : ∃ h1, s_Water_drive (nI n) h = some h1 ∧ DQ h h1 ∧ QM τ K h1 ∧ hL h1 56 n = tk (tin τ K) (mk pF K) n ∧ (∀ q, q ≠ n → hL h1 56 q = hL h 56 q) ∧ hI h1 50 13 = hI h 50 13 ∧ (∃ r, hR h1 50 7 = some r ∧ nd h1 r 0 1440 ∧ ∀ m, m < 1440 → hI h1 r m = drv (tin τ K) (mk pF K) n m) := by
  by_cases he : hI h 50 12 = nI n
  · obtain ⟨st, rg, rw0, lw, cm⟩ := X
    rcases cm.2.2.2.1 with c | ⟨n2, a1, a2, a3, s, b, d⟩
    · rw [he] at c
      have : (-1 : Int32) < 0 := by decide
      rw [← c] at this
      exact absurd this (nI_pos (by omega))
    · rw [he, nI_eq (by omega) (by omega)] at a2
      subst a2
      refine ⟨h, ?_, DQ_refl rw0, ⟨st, rg, rw0, lw, cm⟩, a3, fun _ _ => rfl, rfl, s, b, (rw0.2.1 s b).2, d⟩
      unfold s_Water_drive s_Water_drive_71
      rw [if_pos he]
  · have t9 : hI h 4 9 = mk pF K 39 := kf_term X.1 9 (by decide)
    have n55 : nd h 55 0 24 := nd_of (by decide) rfl
    have E0 := eqO_55 (h := h) (f := fun k => if k < 24 then mk pF K 39 else hI h 55 k)
    have X0 := QM_55 X E0
    have rw0 := X0.2.2.1
    obtain ⟨r, h1, h2, e1, e2, e4, e5, M, e6⟩ := p_mkrun (k := 7) (gl := mk pF K 40) (tb := nI n) (W := fun _ => mk pF K 39) (by decide) X0.1 X0.2.1 X0.2.2.2.1 rw0 X0.2.2.2.2.1 (fun i hi => by rw [hI_wI, if_pos hi]) (fun _ _ => kf_wind X.2.1) (kf_glass X.2.1) (by rw [na_nI (by omega)]; exact hn)
    have r114 : 114 ≤ r := M.2.2.2.2.2.2.1
    have nr : nd h2 r 0 1440 := M.2.2.2.2.2.2.2.1
    have hr7 : hR (sI h2 50 12 (nI n)) 50 7 = some r := by rw [hR_sI]; exact M.2.2.2.1
    have pt : s_Water_takenFromDriven (nI n) (sI h2 50 12 (nI n)) = some (tk (tin τ K) (mk pF K) n) := by
      rw [p_takenFrom (h := sI h2 50 12 (nI n)) (r := r) (row := drv (tin τ K) (mk pF K) n) hr7 nr (fun i hi => by rw [hI_sI_ne (by omega)]; exact e6 i hi) (nI n), tk]
    have f50 : ∀ q, q ≠ 9 → q ≠ 12 → hI (sL (sI h2 50 12 (nI n)) 56 n (tk (tin τ K) (mk pF K) n)) 50 q = hI h 50 q := fun q q1 q2 => by
      show hI (sI h2 50 12 (nI n)) 50 q = _
      rw [hI_sI', if_neg (by omega), M.2.2.2.2.2.2.2.2.2.2.2.2.2 q q1, hI_wI_ne (by decide)]
    have fI : ∀ j, j ≠ 50 → hI (sL (sI h2 50 12 (nI n)) 56 n (tk (tin τ K) (mk pF K) n)) j = hI h2 j := fun j hj => hI_sI_ne hj
    have f56 : ∀ q, hL (sL (sI h2 50 12 (nI n)) 56 n (tk (tin τ K) (mk pF K) n)) 56 q = if q = n then tk (tin τ K) (mk pF K) n else hL h 56 q := fun q => by
      rw [hL_sL]
      show (if q = n then tk (tin τ K) (mk pF K) n else hL (sI h2 50 12 (nI n)) 56 q) = _
      rw [hL_sI, MF_56 M]
      rfl
    have hr2 : hR (sL (sI h2 50 12 (nI n)) 56 n (tk (tin τ K) (mk pF K) n)) = hR h2 := rfl
    have E3 : eqO (fun j => decide (j = 50) || decide (j = 56)) h2 (sL (sI h2 50 12 (nI n)) 56 n (tk (tin τ K) (mk pF K) n)) := eqO_sL (eqO_sI (eqO_refl _ _) (by decide)) (by decide)
    have e3no : ∀ j, j < 50 ∨ 56 < j → (decide (j = 50) || decide (j = 56)) = false := fun j hj => by
      rw [decide_eq_false (p := j = 50) (by omega), decide_eq_false (p := j = 56) (by omega)]; rfl
    have D0 : DQ h (wI h 55 (fun k => if k < 24 then mk pF K 39 else hI h 55 k)) := DQ_of (eqO_mono E0 e55_sC) X.2.2.1
    have D1 : DQ (wI h 55 (fun k => if k < 24 then mk pF K 39 else hI h 55 k)) h2 := ⟨M.2.1, M.2.2.1 8 (by decide), fun q z => (MF_row M rw0 (q := 8) (by decide) (by decide) (by decide) z).1, M.2.2.2.2.2.2.2.2.1, by
      have := M.2.2.2.2.1
      refine Nat.le_trans ?_ this
      unfold pN
      rw [M.2.2.2.1]
      exact Nat.le_refl _, by
      have := M.2.2.2.2.2.1
      refine Nat.le_trans ?_ this
      unfold pSl
      rw [M.2.2.2.1]
      exact Nat.le_refl _⟩
    have D2 : DQ h2 (sL (sI h2 50 12 (nI n)) 56 n (tk (tin τ K) (mk pF K) n)) := DQ_of (eqO_mono E3 (fun j hj => e3no j (by
      unfold sC at hj
      simp only [Bool.and_eq_false_iff, decide_eq_false_iff_not] at hj
      omega))) M.2.2.2.2.2.2.2.2.1
    have D := DQ_trans D0 (DQ_trans D1 D2)
    refine ⟨sL (sI h2 50 12 (nI n)) 56 n (tk (tin τ K) (mk pF K) n), ?_, D, ⟨StP_eq E3 (fun j h1 h2 => e3no j (by omega)) M.2.2.2.2.2.2.2.2.2.2.1, X.2.1, D.2.2.2.1, LW_eq E3 (fun j hj _ => e3no j (by have : 114 ≤ j := hj; omega)) M.2.2.2.2.2.2.2.2.2.1, CM_rest X0.2.2.2.2 (fun j h1 h2 => (fI j (by omega)).trans (MF_58 M (by omega) (by omega))) ?_ ?_ ?_ ?_ ?_⟩, by rw [f56, if_pos rfl], fun q hq => by rw [f56, if_neg hq], f50 13 (by decide) (by decide), r, M.2.2.2.1, nd_eq E3.1 nr, fun m hm => by rw [fI r (by omega)]; exact e6 m hm⟩
    · unfold s_Water_drive s_Water_drive_71
      rw [if_neg he, ib_some _ (by decide) (by decide), show ix 9 = 9 by decide, t9, p_fillI n55 (by decide), Option.bind_some, e1, Option.bind_some, lt_eq, ib_some _ (by decide) (by decide), show ix 10 = 10 by decide, e2, nn_some, e4, hI_wI_ne (by decide), kf_term X.1 10 (by decide), e5, Option.bind_some, lt_eq, pt, Option.bind_some, ib_nI (by omega) (by decide), show ix (nI n) = n from nI_clamp (by omega)]
    · refine Or.inr ⟨?_, ?_⟩
      · show hI (sI h2 50 12 (nI n)) 50 9 = 1
        rw [hI_sI', if_neg (by decide)]; exact M.2.2.2.2.2.2.2.2.2.2.2.1
      · unfold TdOK; rw [fI 54 (by decide)]; exact M.2.2.2.2.2.2.2.2.2.2.2.2.1
    · have := MF_C10 M X0.2.2.2.2.2.1
      unfold C10 at this ⊢
      rw [fI 57 (by decide)]
      show hI (sI h2 50 12 (nI n)) 50 10 = 0 ∨ (hI (sI h2 50 12 (nI n)) 50 10 = 1 ∧ hI (sI h2 50 12 (nI n)) 50 9 = 1 ∧ _)
      rw [hI_sI', if_neg (by decide), hI_sI', if_neg (by decide)]
      exact this
    · have := MF_C11 M rw0 (Or.inl rfl) X0.2.2.2.2.2.2.1
      unfold C11 at this ⊢
      rw [hr2]
      show hI (sI h2 50 12 (nI n)) 50 11 = 0 ∨ (hI (sI h2 50 12 (nI n)) 50 11 = 1 ∧ _)
      rw [hI_sI', if_neg (by decide)]
      rcases this with c | ⟨a, s, b, d⟩
      · exact Or.inl c
      · exact Or.inr ⟨a, s, b, by rw [fI s (by have : 114 ≤ s := (M.2.2.2.2.2.2.2.2.1.1 s b).1; omega)]; exact d⟩
    · refine Or.inr ⟨n, hn, ?_, by rw [f56, if_pos rfl], r, M.2.2.2.1, fun m hm => by rw [fI r (by omega)]; exact e6 m hm⟩
      show hI (sI h2 50 12 (nI n)) 50 12 = _
      rw [hI_sI', if_pos ⟨rfl, rfl⟩]
    · intro q hq
      rw [f56]
      by_cases z : q = n
      · rw [if_pos z, z]; exact Or.inr rfl
      · rw [if_neg z]; exact X.2.2.2.2.2.2.2.2.1 q hq
