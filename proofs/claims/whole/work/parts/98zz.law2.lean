/-! the law: class and reference together -/
def lwF (k : Nat) : Bool := !(decide (k = 10) || decide (k = 11) || decide (k = 15) || decide (k = 16) || decide (k = 17) || decide (k = 18))
theorem lwF_e (k : Nat) (h : lwF k = true) : k ≠ 10 ∧ k ≠ 11 ∧ k ≠ 15 ∧ k ≠ 16 ∧ k ≠ 17 ∧ k ≠ 18 := by
  unfold lwF at h
  simp only [Bool.not_eq_true', Bool.or_eq_false_iff, decide_eq_false_iff_not] at h
  exact ⟨h.1.1.1.1.1, h.1.1.1.1.2, h.1.1.1.2, h.1.1.2, h.1.2, h.2⟩
theorem sAs_Sp (j : Nat) (h : sSp j = false) : sAs j = false := by
  unfold sSp at h
  rw [Bool.or_eq_false_iff] at h
  exact h.1
theorem j_reads {y : Nat → Nat} {n : Nat} {h g : Hp} (T : TY y n h) (Tr : TYr y n g) (e10 : hI g 84 10 = nI n) : ∃ N o h2 r g2, s_Reader_readLaw h = some (o, h2) ∧ s_Mod_reads g = some (r, g2) ∧ eqO sSp g g2 ∧ m84 lwF g g2 ∧ hI g2 84 10 = 0 ∧ hI g2 84 15 = nI N ∧ TKr y n N g2 ∧ ((o = none ∧ r = 0 ∧ eqO sR3 h h2 ∧ ∃ p, p ≤ 400 ∧ hI h2 47 9 = nI p ∧ hI g2 84 11 = nI p) ∨ (o = some (nid h) ∧ r = 1 ∧ hI g2 84 11 = -1 ∧ LAW y n N h h2)) := by
  have hn := T.1
  have E0 : eqO sR3 h (sI (sI (sI (sI (sI h 47 3 0) 47 4 0) 47 5 0) 47 8 0) 47 9 (-1)) := eqO_sI (eqO_sI (eqO_sI (eqO_sI (eqO_sI (eqO_refl _ _) (by decide)) (by decide)) (by decide)) (by decide)) (by decide)
  have T0 : TY y n (sI (sI (sI (sI (sI h 47 3 0) 47 4 0) 47 5 0) 47 8 0) 47 9 (-1)) := TY_eq T (E0.2 45 (by decide)).1 (E0.2 46 (by decide)).1
  obtain ⟨h1, a1, a2, a3, a4, a5, a6, a7⟩ := p_step (a := 0) T0 (Nat.zero_le _) (by rw [hI_sI', if_neg (by omega), hI_sI', if_pos ⟨rfl, rfl⟩]; rfl)
  have S : SC y n 0 0 0 h1 := ⟨⟨a2, a3, a4, a5⟩, by rw [a7 3 (by decide), hI_sI', if_neg (by omega), hI_sI', if_neg (by omega), hI_sI', if_neg (by omega), hI_sI', if_neg (by omega), hI_sI', if_pos ⟨rfl, rfl⟩]; rfl, by rw [a7 5 (by decide), hI_sI', if_neg (by omega), hI_sI', if_neg (by omega), hI_sI', if_pos ⟨rfl, rfl⟩]; rfl, by rw [a7 9 (by decide), hI_sI', if_pos ⟨rfl, rfl⟩]⟩
  have e4 : hI h1 47 4 = nI (4 * 0) := by rw [a7 4 (by decide), hI_sI', if_neg (by omega), hI_sI', if_neg (by omega), hI_sI', if_neg (by omega), hI_sI', if_pos ⟨rfl, rfl⟩]; rfl
  have E1 : eqO sR3 h h1 := eqO_trans E0 (eqO_mono a6 (fun j hj => s47_Rd j (sRd_3 j hj)))
  obtain ⟨N, g1, b1, b2, b3, b4⟩ := p_splits Tr
  have F2 : FRd g1 (sI (sI (sI g1 84 16 0) 84 17 0) 84 18 (-1)) := FRd_sI (FRd_sI (FRd_sI (FRd_refl g1) (by decide)) (by decide)) (by decide)
  have Tk : TKr y n N (sI (sI (sI (sI g1 84 10 0) 84 16 0) 84 17 0) 84 18 (-1)) := by
    unfold TKr
    simp only [hI_sI_ne (show (92 : Nat) ≠ 84 by decide), hI_sI_ne (show (93 : Nat) ≠ 84 by decide), hI_sI_ne (show (94 : Nat) ≠ 84 by decide)]
    exact b4
  have R : SR y n N 0 0 (sI (sI (sI (sI g1 84 10 0) 84 16 0) 84 17 0) 84 18 (-1)) := ⟨Tk, Nat.zero_le _, by rw [hI_sI', if_neg (by omega), hI_sI', if_neg (by omega), hI_sI', if_pos ⟨rfl, rfl⟩]; rfl, by rw [hI_sI', if_neg (by omega), hI_sI', if_pos ⟨rfl, rfl⟩]; rfl, by rw [hI_sI', if_pos ⟨rfl, rfl⟩], by omega⟩
  have e15 : hI (sI (sI (sI (sI g1 84 10 0) 84 16 0) 84 17 0) 84 18 (-1)) 84 15 = nI N := by rw [hI_sI', if_neg (by omega), hI_sI', if_neg (by omega), hI_sI', if_neg (by omega), hI_sI', if_neg (by omega), b3, if_pos rfl]
  have e10' : hI (sI (sI (sI (sI g1 84 10 0) 84 16 0) 84 17 0) 84 18 (-1)) 84 10 = 0 := by rw [hI_sI', if_neg (by omega), hI_sI', if_neg (by omega), hI_sI', if_neg (by omega), hI_sI', if_pos ⟨rfl, rfl⟩]
  obtain ⟨o, h2, r, g2, l1, l2, l3, l4⟩ := j_law 11 0 0 0 0 h1 _ (fun _ => (0, fun _ => none)) (fun _ => 0) (by omega) S R (Nat.le_refl _) e4 e15 rfl rfl (fun i hi => absurd hi (by omega))
  refine ⟨N, o, h2, r, g2, ?_, ?_, ?_, fun k hk => ?_, ?_, ?_, ?_, ?_⟩
  · unfold s_Reader_readLaw
    rw [a1, Option.bind_some]
    exact l1
  · unfold s_Mod_reads
    rw [e10, b1, Option.bind_some]
    exact l2
  · exact eqO_trans (eqO_sI (eqO_sI (eqO_sI (eqO_sI b2 (by decide)) (by decide)) (by decide)) (by decide)) (eqO_mono l3.1 sAs_Sp)
  · obtain ⟨k1, k2, k3, k4, k5, k6⟩ := lwF_e k hk
    have : reF k = true := by unfold reF; rw [decide_eq_false k2, decide_eq_false k4, decide_eq_false k5, decide_eq_false k6]; rfl
    rw [l3.2 k this, hI_sI', if_neg (by omega), hI_sI', if_neg (by omega), hI_sI', if_neg (by omega), hI_sI', if_neg (by omega), b3, if_neg k3]
  · rw [l3.2 10 (by decide)]; exact e10'
  · rw [l3.2 15 (by decide)]; exact e15
  · unfold TKr
    rw [(l3.1.2 92 (by decide)).1, (l3.1.2 93 (by decide)).1, (l3.1.2 94 (by decide)).1]
    exact Tk
  · rcases l4 with ⟨x1, x2, x3, x4⟩ | ⟨x1, x2, x3, x4⟩
    · exact Or.inl ⟨x1, x2, eqO_trans E1 x3, x4⟩
    · rw [nid_of E1.1] at x1
      exact Or.inr ⟨x1, x2, x3, LAW_from E1 x4⟩
/-- the reference keeps a law's tokens -/
def KPt (t k : Nat) (g0 g : Hp) : Prop := eqO (fun j => decide (j = 86)) g0 g ∧ (∀ i, i < k → hI g 86 (198 + 400 * t + i) = hI g0 92 i ∧ hI g 86 (2598 + 400 * t + i) = hI g0 93 i) ∧ ∀ j, ¬ (198 + 400 * t ≤ j ∧ j < 598 + 400 * t) → ¬ (2598 + 400 * t ≤ j ∧ j < 2998 + 400 * t) → hI g 86 j = hI g0 86 j
theorem p_keepT {t N : Nat} {g0 : Hp} (ht : t < 6) (hN4 : N ≤ 400) (e15 : hI g0 84 15 = nI N) : ∀ (q k : Nat) (g : Hp), k + q = N → KPt t k g0 g → ∃ g2, lp (fun q : Int32 × Int32 × Hp => s_Mod_law_64 q.1 q.2.1 q.2.2) (nI t, nI k, g) = some (nI t, gdR (sI g2 86 189 (hI g2 86 189 + 1))) ∧ KPt t N g0 g2 := by
  intro q
  induction q with
  | zero =>
    intro k g hk P
    have hk : k = N := by omega
    subst hk
    refine ⟨g, lp_inr ?_, P⟩
    show s_Mod_law_64 (nI t) (nI k) g = _
    unfold s_Mod_law_64
    rw [(P.1.2 84 (by decide)).1, e15, if_pos (Int32.le_refl _), ib_some _ (by decide) (by decide), ib_some _ (by decide) (by decide), show ix (189 : Int32) = 189 from rfl, p_goodR, Option.bind_some]
  | succ q ih =>
    intro k g hk P
    have e92 : hI g 92 = hI g0 92 := (P.1.2 92 (by decide)).1
    have e93 : hI g 93 = hI g0 93 := (P.1.2 93 (by decide)).1
    have i1 : (198 : Int32) + 400 * nI t + nI k = nI (198 + 400 * t + k) := by rw [show (400 : Int32) = nI 400 from rfl, nI_mul, show (198 : Int32) = nI 198 from rfl, nI_add, nI_add]
    have i2 : (2598 : Int32) + 400 * nI t + nI k = nI (2598 + 400 * t + k) := by rw [show (400 : Int32) = nI 400 from rfl, nI_mul, show (2598 : Int32) = nI 2598 from rfl, nI_add, nI_add]
    have stp : s_Mod_law_64 (nI t) (nI k) g = some (.inl (nI t, nI (k + 1), sI (sI g 86 (198 + 400 * t + k) (hI g0 92 k)) 86 (2598 + 400 * t + k) (hI g0 93 k))) := by
      unfold s_Mod_law_64
      rw [(P.1.2 84 (by decide)).1, e15, if_neg (by rw [nI_leI (by omega) (by omega)]; omega), ib_nI (by omega) (by decide), i1, ib_nI (by omega) (by decide), lt_eq, ib_nI (by omega) (by decide), i2, ib_nI (by omega) (by decide), nI_1, show ix (nI k) = k from nI_clamp (by omega), show ix (nI (198 + 400 * t + k)) = 198 + 400 * t + k from nI_clamp (by omega), show ix (nI (2598 + 400 * t + k)) = 2598 + 400 * t + k from nI_clamp (by omega), hI_sI_ne (show (93 : Nat) ≠ 86 by decide), e92, e93]
    rw [lp_inl stp]
    refine ih (k + 1) _ (by omega) ⟨eqO_sI (eqO_sI P.1 (by decide)) (by decide), fun i hi => ?_, fun j h1 h2 => ?_⟩
    · rcases (show i < k ∨ i = k by omega) with z | z
      · rw [hI_sI', if_neg (by omega), hI_sI', if_neg (by omega), hI_sI', if_neg (by omega), hI_sI', if_neg (by omega)]
        exact P.2.1 i z
      · rw [z, hI_sI', if_neg (by omega), hI_sI', if_pos ⟨rfl, rfl⟩, hI_sI', if_pos ⟨rfl, rfl⟩]
        exact ⟨rfl, rfl⟩
    · rw [hI_sI', if_neg (by omega), hI_sI', if_neg (by omega)]
      exact P.2.2 j h1 h2
/-- the invariant, over a law -/
def sLw (j : Nat) : Bool := decide (j ≤ 1) || decide (j = 45) || (decide (47 ≤ j) && decide (j ≤ 49)) || (decide (83 ≤ j) && decide (j ≤ 86)) || (decide (92 ≤ j) && decide (j ≤ 94))
theorem sLw_no {j : Nat} (h : 1 < j ∧ j ≠ 45 ∧ (j < 47 ∨ 49 < j) ∧ (j < 83 ∨ 86 < j) ∧ (j < 92 ∨ 94 < j)) : sLw j = false := by
  unfold sLw
  simp only [Bool.or_eq_false_iff, Bool.and_eq_false_iff, decide_eq_false_iff_not]
  omega
theorem sLw_of {j : Nat} (h : sLw j = false) : 1 < j ∧ j ≠ 45 ∧ (j < 47 ∨ 49 < j) ∧ (j < 83 ∨ 86 < j) ∧ (j < 92 ∨ 94 < j) := by
  unfold sLw at h
  simp only [Bool.or_eq_false_iff, Bool.and_eq_false_iff, decide_eq_false_iff_not] at h
  omega
def Fnw (h h2 : Hp) : Prop := (∀ r, NS ≤ r → r < nid h → kd h2 r = kd h r ∧ hR h2 r = hR h r ∧ hI h2 r = hI h r ∧ hL h2 r = hL h r) ∧ hN h ≤ hN h2
theorem nd_N {h h2 : Hp} {r t n : Nat} (F : Fnw h h2) (h0 : NS ≤ r) (H : nd h r t n) : nd h2 r t n := by
  refine ⟨?_, Nat.lt_of_lt_of_le H.2 (by unfold nid; have := F.2; omega)⟩
  rw [(F.1 r h0 H.2).1]
  exact H.1
theorem ClsT_N {h h2 : Hp} {r : Nat} {T : TF} (F : Fnw h h2) (H : ClsT h r T) : ClsT h2 r T := by
  obtain ⟨h1, h0, a, b, na, nb, e1, e2, l1, l2, n1, n2, s1, s2, c⟩ := H
  have er : ∀ k, rf h2 r k = rf h r k := fun k => by unfold rf; rw [(F.1 r h0 h1.2).2.1]
  refine ⟨nd_N F h0 h1, h0, a, b, na, nb, by rw [er]; exact e1, by rw [er]; exact e2, l1, l2, nd_N F l1 n1, nd_N F l2 n2, s1, s2, ?_⟩
  rw [(F.1 a l1 n1.2).2.2.1, (F.1 b l2 n2.2).2.2.1]
  exact c
theorem law_ok {τ : Nat → Nat → TF} {τ' : Nat → TF} {n : Nat} {h h2 : Hp} (hi : InvT τ n h) (f1 : ∀ j, j < NS → sLw j = false → hI h2 j = hI h j ∧ hL h2 j = hL h j) (f2 : ∀ j, j < NS → j ≠ 6 → hR h2 j = hR h j) (f3 : Fnw h h2) (f4 : hN h2 ≤ hN h + 3 ∧ hS h2 ≤ hS h + 8640) (sm' : SM τ' (hI h2 86) h2 1) (et : tin τ' (hI h2 86) = tin (τ 0) (hI h 86)) (k86 : ∀ j, j < 189 → hI h2 86 j = hI h 86 j) (rwl : ∀ t r, t < 6 → hR h2 6 t = some r → NS ≤ r ∧ nd h2 r 101 2) (e45 : hI h2 45 1 = 0) (e10 : hI h2 84 10 = 0) (e51 : hI h2 84 51 = hI h 84 51) (ss' : SS h2) (rc' : RC (tin (τ 0) (hI h 86)) (hI h2 86) (n + 1) h2) : InvT (fun i => if i = 0 then τ' else τ i) (n + 1) h2 := by
  obtain ⟨sm, im, tp, ss, rw0, cc, rc, dr, rm, wd⟩ := hi
  obtain ⟨w6, w7, w8, w9, d1, d2, d3⟩ := rw0
  have g : ∀ j, j < NS → sLw j = false → hI h2 j = hI h j := fun j a b => (f1 j a b).1
  have hr50 : hR h2 50 = hR h 50 := f2 50 (by decide) (by decide)
  have hr69 : hR h2 69 = hR h 69 := f2 69 (by decide) (by decide)
  have mF : mk pF (hI h2 86) = mk pF (hI h 86) := mk_eq (fun j hj => k86 j (by unfold pF at hj; simp only [decide_eq_true_eq] at hj; omega))
  have mS : mk pS (hI h2 86) = mk pS (hI h 86) := mk_eq (fun j hj => k86 j (by unfold pS at hj; simp only [Bool.or_eq_true, Bool.and_eq_true, decide_eq_true_eq] at hj; omega))
  have mD : mk pD (hI h2 86) = mk pD (hI h 86) := mk_eq (fun j hj => k86 j (by unfold pD at hj; simp only [Bool.or_eq_true, Bool.and_eq_true, decide_eq_true_eq] at hj; omega))
  have rows : ∀ r m, rw1 h (some r) m → hI h2 r = hI h r := fun r m z => (f3.1 r (z r rfl).1 (z r rfl).2.2).2.2.1
  have r1 : ∀ o m, rw1 h o m → rw1 h2 o m := fun o m z r hr => ⟨(z r hr).1, nd_N f3 (z r hr).1 (z r hr).2⟩
  have go : ∀ j, 50 ≤ j → j ≤ 82 → hI h2 j = hI h j := fun j a b => g j (by show j < 114; omega) (sLw_no (by omega))
  refine ⟨sm', fun i hi2 => ?_, ⟨0, by decide, e45, e10, fun i hi2 => absurd hi2 (by omega)⟩, ss', ⟨by rw [hr50]; exact r1 _ _ w6, by rw [hr50]; exact r1 _ _ w7, by rw [hr50]; exact r1 _ _ w8, by rw [hr69]; exact r1 _ _ w9, by rw [hr50]; exact d1, by rw [hr50]; exact d2, fun j t r hj ht e => ?_⟩, ?_, ?_, ?_, RM_eq f4.1 f4.2 rm, WD_eq (g 89 (by decide) (by decide)) wd⟩
  · obtain ⟨i1, i2⟩ := im i hi2
    have e44 := g 44 (by decide) (by decide)
    have e87 := g 87 (by decide) (by decide)
    have e88 := g 88 (by decide) (by decide)
    refine ⟨by rw [e44, e88]; exact i1, ?_⟩
    rw [e44, e87]
    rcases i2 with i2 | ⟨i2, i3, i4, i5⟩
    · exact Or.inl i2
    · refine Or.inr ⟨i2, StP_fr i3 (fun d hd => g _ (by show 16 + 14 * i + d < 114; omega) (sLw_no (by omega))), i4, fun t ht hk => ?_⟩
      obtain ⟨r, x1, x2, x3⟩ := i5 t ht hk
      exact ⟨r, by rw [f2 _ (by show 16 + 14 * i + 5 < 114; omega) (by omega)]; exact x1, ClsT_N f3 x2, x3⟩
  · rcases hj with z | z | z
    · rw [z] at e
      exact rwl t r ht e
    · rw [f2 j (by show j < 114; omega) (by omega)] at e
      obtain ⟨x1, x2⟩ := d3 j t r (Or.inr (Or.inl z)) ht e
      exact ⟨x1, nd_N f3 x1 x2⟩
    · rw [f2 j (by show j < 114; omega) (by omega)] at e
      obtain ⟨x1, x2⟩ := d3 j t r (Or.inr (Or.inr z)) ht e
      exact ⟨x1, nd_N f3 x1 x2⟩
  · show CC (tin τ' (hI h2 86)) (hI h2 86) h2
    rw [et]
    obtain ⟨cf, c69, c74⟩ := cc
    refine ⟨?_, C69_eq (go 69 (by decide) (by decide)) (go 72 (by decide) (by decide)) (go 73 (by decide) (by decide)) mF mS c69, C74_eq (go 74 (by decide) (by decide)) (go 77 (by decide) (by decide)) mD c74⟩
    rw [mF]
    exact CF_eq (go 50 (by decide) (by decide)) (go 54 (by decide) (by decide)) (go 57 (by decide) (by decide)) (go 58 (by decide) (by decide)) (go 59 (by decide) (by decide)) (go 60 (by decide) (by decide)) (go 78 (by decide) (by decide)) (go 79 (by decide) (by decide)) (f1 56 (by decide) (by decide)).2 (by rw [hr50]) (by rw [hr50]) (fun r z => rows r 1440 (by rw [← z]; exact w6)) (fun r z => rows r 1440 (by rw [← z]; exact w7)) cf
  · show RC (tin τ' (hI h2 86)) (hI h2 86) (n + 1) h2
    rw [et]
    exact rc'
  · exact DR_eq (by rw [hr50]) e51 (g 113 (by decide) (by decide)) (fun r z => rows r 1440 (by rw [← z]; exact w8)) dr
