/-! late -/
theorem CQ_after {T : TF} {K : Nat → Int32} {h h1 h2 : Hp} (E : eqO sC h h1) (rw0 : RW h) (c : CQ T K h1 h2) : CQ T K h h2 := by
  obtain ⟨c1, c2, c3, c4, c5, c6, c7⟩ := c
  have hr := hR_of E.1
  refine ⟨Fr_trans (Fr_of E sC_ns) c1, by rw [c2, hr], fun r z => (c3 r (by rw [hr]; exact z)).trans (E.2 r (sC_ns r (rw0.2.2.1 r z).1)).1, c4, by rw [← hN_of E.1]; exact c5, by rw [← hS_of E.1]; exact c6, c7⟩
theorem p_calm {τ : Nat → TF} {K : Nat → Int32} {h : Hp} (X : QX τ K h) : ∃ h1, s_Water_freshenCalm h = some h1 ∧ CQ (tin τ K) K h h1 ∧ StP K h1 1 ∧ hI h1 57 = hI h 57 ∧ ∃ r, hR h1 50 6 = some r ∧ nd h1 r 0 1440 ∧ ∀ m, m < 1440 → hI h1 r m = cal (tin τ K) (mk pF K) m := by
  rcases X.1.2.2.2.1.2.2.1 with c | ⟨c1, r, c2, c3⟩
  · have n55 : nd h 55 0 24 := nd_of (by decide) rfl
    have E0 := eqO_55 (h := h) (f := fun k => if k < 24 then 0 else hI h 55 k)
    have X0 := QX_55 X E0
    have rw0 := X0.1.2.2.1
    obtain ⟨r, h1, h2, e1, e2, e4, e5, M, e6⟩ := p_mkrun (k := 6) (gl := 1013) (tb := 0) (W := fun _ => 0) (by decide) X0.1.1 X0.1.2.1 X0.2 rw0 X0.1.2.2.2.1.1 (fun i hi => by rw [hI_wI, if_pos hi]) (fun _ _ => by decide) (by decide) (by decide)
    have r114 : 114 ≤ r := M.2.2.2.2.2.2.1
    have nr : nd h2 r 0 1440 := M.2.2.2.2.2.2.2.1
    have fI : ∀ j, j ≠ 50 → hI (sI h2 50 11 1) j = hI h2 j := fun j hj => hI_sI_ne hj
    have f50 : ∀ q, q ≠ 11 → hI (sI h2 50 11 1) 50 q = hI h2 50 q := fun q hq => by rw [hI_sI', if_neg (by omega)]
    have E3 : eqO (fun j => decide (j = 50)) h2 (sI h2 50 11 1) := eqO_sI (eqO_refl _ _) (by decide)
    have hr2 : hR (sI h2 50 11 1) = hR h2 := rfl
    have cc0 := X0.1.2.2.2
    have cc3 : CC (tin τ K) K (sI h2 50 11 1) := by
      refine CC_gen cc0 (fun j h1 h2 => (fI j (by omega)).trans (MF_58 M (by omega) (by omega))) ?_ ?_ ?_ ?_ ?_ ?_
      · exact Or.inr ⟨by rw [f50 9 (by decide)]; exact M.2.2.2.2.2.2.2.2.2.2.2.1, by unfold TdOK; rw [fI 54 (by decide)]; exact M.2.2.2.2.2.2.2.2.2.2.2.2.1⟩
      · have := MF_C10 M cc0.1.2.1
        unfold C10 at this ⊢
        rw [fI 57 (by decide), f50 10 (by decide), f50 9 (by decide)]
        exact this
      · refine Or.inr ⟨by rw [hI_sI', if_pos ⟨rfl, rfl⟩], r, M.2.2.2.1, fun m hm => by rw [fI r (by omega)]; exact e6 m hm⟩
      · have := MF_C12 M rw0 (Or.inl rfl) cc0.1.2.2.2.1
        unfold C12 at this ⊢
        rw [f50 12 (by decide), hr2, hL_sI]
        rcases this with c | ⟨n, a1, a2, a3, s, b, d⟩
        · exact Or.inl c
        · exact Or.inr ⟨n, a1, a2, a3, s, b, by rw [fI s (by have : 114 ≤ s := (M.2.2.2.2.2.2.2.2.1.2.1 s b).1; omega)]; exact d⟩
      · have := MF_C56 M cc0.1.2.2.2.2.1
        unfold C56 at this ⊢
        rw [hL_sI]
        exact this
      · have := MF_C13 M cc0.1.2.2.2.2.2.1
        unfold C13 at this ⊢
        rw [f50 13 (by decide)]
        exact this
    have D1 : CQ (tin τ K) K (wI h 55 (fun k => if k < 24 then 0 else hI h 55 k)) (sI h2 50 11 1) := by
      refine ⟨Fr_trans M.2.1 (Fr_of (eqO_mono E3 (fun j hj => decide_eq_false (by
        unfold sC at hj
        simp only [Bool.and_eq_false_iff, decide_eq_false_iff_not] at hj
        omega))) sC_ns), by rw [hr2]; exact M.2.2.1 8 (by decide), fun q z => ?_, RW_eq E3.1 M.2.2.2.2.2.2.2.2.1, ?_, ?_, cc3⟩
      · rw [fI q (by have : 114 ≤ q := (rw0.2.2.1 q z).1; omega)]
        exact (MF_row M rw0 (q := 8) (by decide) (by decide) (by decide) z).1
      · show hN h2 ≤ _
        have := M.2.2.2.2.1
        have := pN_le 6 (wI h 55 (fun k => if k < 24 then 0 else hI h 55 k))
        omega
      · show hS h2 ≤ _
        have := M.2.2.2.2.2.1
        have := pSl_le 6 (wI h 55 (fun k => if k < 24 then 0 else hI h 55 k))
        omega
    refine ⟨sI h2 50 11 1, ?_, CQ_after (eqO_mono E0 e55_sC) X.1.2.2.1 D1, StP_eq E3 (fun j h1 h2 => decide_eq_false (by omega)) M.2.2.2.2.2.2.2.2.2.2.1, ?_, r, M.2.2.2.1, nr, fun m hm => by rw [fI r (by omega)]; exact e6 m hm⟩
    · unfold s_Water_freshenCalm s_Water_freshenCalm_43
      rw [if_pos c, p_fillI n55 (by decide), Option.bind_some, e1, Option.bind_some, lt_eq, e2, nn_some, e5, Option.bind_some]
    · rw [fI 57 (by decide), MF_58 M (by decide) (by decide), hI_wI_ne (by decide)]
  · refine ⟨h, ?_, QX_CQ X (eqO_refl _ _) X, X.1.1, rfl, r, c2, (X.1.2.2.1.1 r c2).2, c3⟩
    unfold s_Water_freshenCalm s_Water_freshenCalm_43
    rw [c1, if_neg (by decide)]
def lt2 (a b : Nat ⊕ Nat) : Int32 := match a, b with
  | .inl x, .inl y => nI x - nI y
  | _, _ => -100000
def aLate (x1 : Int32) (T : TF) (K : Nat → Int32) : Int32 := if x1 < 0 then -100000 else lt2 (slA (td0 T (mk pF K)) (mk pF K) x1) (slA (cal T (mk pF K)) (mk pF K) x1)
theorem C_late {τ : Nat → TF} {K : Nat → Int32} {h : Hp} (x1 : Int32) (X : QX τ K h) : ∃ h1, s_Race_late x1 h = some (aLate x1 (tin τ K) K, h1) ∧ CQ (tin τ K) K h h1 := by
  obtain ⟨h1, a1, a2, a3, a4, a5, a6, a7⟩ := p_today X
  obtain ⟨h2, b1, b2, b3, b4, r, b5, b6, b7⟩ := p_calm a3
  refine ⟨h2, ?_, CQ_after (eqO_mono a2 sTd_sC) X.1.2.2.1 b2⟩
  have n57 : nd h2 57 0 1440 := nd_of (by decide) rfl
  unfold s_Race_late s_Race_late_54 s_Race_late_62 aLate
  rw [a1, Option.bind_some, b1, Option.bind_some, p_slackStart b3 n57 (row := td0 (tin τ K) (mk pF K)) (fun i hi => by rw [b4]; exact a7 i hi), Option.bind_some, b5, nn_some, p_slackStart b3 b6 b7, Option.bind_some]
  by_cases hx : x1 < 0
  · rw [if_pos hx]
    have e1 : slA (td0 (tin τ K) (mk pF K)) (mk pF K) x1 = .inr _ := slF_neg hx 1440 0 0 (by decide)
    rw [e1]
    show (if (-1 : Int32) < 0 then _ else _) = _
    rw [if_pos (by decide)]
  rw [if_neg hx]
  cases e1 : slA (td0 (tin τ K) (mk pF K)) (mk pF K) x1 with
  | inr n =>
    show (if (-1 : Int32) < 0 then _ else _) = _
    rw [if_pos (by decide)]
    rfl
  | inl m =>
    have hm : m < 1440 := by have := slF_lt 1440 0 0 m e1; omega
    show (if nI m < 0 then _ else _) = _
    rw [if_neg (nI_pos (by omega))]
    cases e2 : slA (cal (tin τ K) (mk pF K)) (mk pF K) x1 with
    | inr n =>
      show (if (0 : Int32) ≤ -1 then _ else _) = _
      rw [if_neg (by decide)]
      rfl
    | inl k =>
      have hk : k < 1440 := by have := slF_lt 1440 0 0 k e2; omega
      show (if (0 : Int32) ≤ nI k then _ else _) = _
      rw [if_pos (nI_pos' (by omega))]
      rfl
theorem slF_inr {b : Nat → Bool} {i : Int32} : ∀ r m n q, slF b i r m n = .inr q → q ≤ n + r
  | 0, _, _, _, e => by cases e; omega
  | r + 1, m, n, q, e => by
    unfold slF at e
    split at e
    · split at e
      · cases e
      · have := slF_inr r _ _ _ e; omega
    · have := slF_inr r _ _ _ e; omega
theorem neg_lt {q : Nat} (hq : q ≤ 1440) : -1 - nI q < 0 := by
  rw [Int32.lt_iff_toInt_lt, Int32.toInt_sub, nI_toInt (by omega), show (-1 : Int32).toInt = -1 by decide, show (0 : Int32).toInt = 0 by decide, Int.bmod_eq_of_le (by omega) (by omega)]
  omega
theorem R_late {τ : Nat → TF} {K : Nat → Int32} {n : Nat} {h : Hp} (x1 : Int32) (X : RX τ K h) (rc : RC (tin τ K) K n h) : ∃ h2, s_Mod_late x1 h = some (aLate x1 (tin τ K) K, h2) ∧ RE (tin τ K) K n h h2 := by
  unfold s_Mod_late s_Mod_late_57 s_Mod_late_66 aLate
  by_cases hx : x1 < 0
  · rw [if_neg (Int32.not_le.mpr hx), if_pos hx]
    exact ⟨h, rfl, RE_refl rc⟩
  · obtain ⟨h2, b1, b2, b3, b4, b5, b6⟩ := p_looks X rc
    obtain ⟨h3, h4, c1, c2, c3, c4, c5, c6, c7⟩ := p_otherR (w := 0) (gl := 1013) (tb := 0) b4 (by decide) (by decide) (by decide)
    have re := RE_tk c4 c5 b5
    refine ⟨h4, ?_, eqO_trans b2 re.1, m84_trans b3 re.2.1, re.2.2⟩
    rw [if_pos (Int32.not_lt.mp hx), if_neg hx, b1, Option.bind_some, c1, Option.bind_some, c3, Option.bind_some, p_slackAt c6 (nd_of (by decide) rfl) (row := td0 (tin τ K) (mk pF K)) (fun i hi => by rw [(c4.2 97 (by decide)).1]; exact b6.1 i hi), Option.bind_some, p_slackAt c6 (nd_of (by decide) rfl) (row := cal (tin τ K) (mk pF K)) c7, Option.bind_some]
    cases e1 : slA (td0 (tin τ K) (mk pF K)) (mk pF K) x1 with
    | inr n =>
      have := slF_inr 1440 0 0 n e1
      show (if -1 - nI n < 0 then _ else _) = _
      rw [if_pos (neg_lt (by omega))]
      rfl
    | inl m =>
      have hm : m < 1440 := by have := slF_lt 1440 0 0 m e1; omega
      show (if nI m < 0 then _ else _) = _
      rw [if_neg (nI_pos (by omega))]
      cases e2 : slA (cal (tin τ K) (mk pF K)) (mk pF K) x1 with
      | inr n =>
        have := slF_inr 1440 0 0 n e2
        show (if (0 : Int32) ≤ -1 - nI n then _ else _) = _
        rw [if_neg (Int32.not_le.mpr (neg_lt (by omega)))]
        rfl
      | inl k =>
        have hk : k < 1440 := by have := slF_lt 1440 0 0 k e2; omega
        show (if (0 : Int32) ≤ nI k then _ else _) = _
        rw [if_pos (nI_pos' (by omega))]
        rfl
theorem Q_late (n : Nat) (x1 : Int32) (h : Hp) (_ : n < 512) (hi : Inv n h) : ∃ h2, q_late x1 h = some h2 ∧ Inv (n + 1) h2 := ask hi (aLate x1) (fun _ _ X => C_late x1 X) (fun _ _ _ _ X rc => R_late x1 X rc)
