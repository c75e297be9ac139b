/-! calls that change a few kept numbers -/
def updC : List (Nat × Int32) → Hp → Hp
  | [], h => h
  | (j, v) :: l, h => updC l (sI h (1 + (pl j).1) (pl j).2 v)
def updR : List (Nat × Int32) → Hp → Hp
  | [], h => h
  | (j, v) :: l, h => updR l (sI h 86 j v)
def updK : List (Nat × Int32) → (Nat → Int32) → Nat → Int32
  | [], K => K
  | (j, v) :: l, K => updK l (upd K j v)
theorem updC_fr : ∀ (l : List (Nat × Int32)) (h : Hp), (∀ q, q ∈ l → q.1 < 191) → (updC l h).2 = h.2 ∧ ∀ a, a = 0 ∨ 15 ≤ a → hI (updC l h) a = hI h a
  | [], _, _ => ⟨rfl, fun _ _ => rfl⟩
  | (j, v) :: l, h, hl => by
    obtain ⟨e1, e2⟩ := updC_fr l (sI h (1 + (pl j).1) (pl j).2 v) (fun q hq => hl q (List.mem_cons_of_mem _ hq))
    refine ⟨e1, fun a ha => ?_⟩
    have := pl_off j (hl (j, v) List.mem_cons_self)
    exact (e2 a ha).trans (hI_sI_ne (by omega))
theorem updC_st : ∀ (l : List (Nat × Int32)) (h : Hp) (K : Nat → Int32), (∀ q, q ∈ l → q.1 < 191) → StP K h 1 → StP (updK l K) (updC l h) 1
  | [], _, _, _, H => H
  | (j, v) :: l, h, K, hl, H => updC_st l _ _ (fun q hq => hl q (List.mem_cons_of_mem _ hq)) (StP_set H (hl (j, v) List.mem_cons_self) rfl)
theorem updR_fr : ∀ (l : List (Nat × Int32)) (h : Hp), (updR l h).2 = h.2 ∧ hI (updR l h) 86 = updK l (hI h 86) ∧ ∀ a, a ≠ 86 → hI (updR l h) a = hI h a
  | [], _ => ⟨rfl, rfl, fun _ _ => rfl⟩
  | (j, v) :: l, h => by
    obtain ⟨e1, e2, e3⟩ := updR_fr l (sI h 86 j v)
    refine ⟨e1, ?_, fun a ha => (e3 a ha).trans (hI_sI_ne ha)⟩
    rw [hI_sI] at e2
    exact e2
theorem updK_ne : ∀ (l : List (Nat × Int32)) (K : Nat → Int32) (i : Nat), (∀ q, q ∈ l → q.1 ≠ i) → updK l K i = K i
  | [], _, _, _ => rfl
  | (j, v) :: l, K, i, hl => (updK_ne l (upd K j v) i (fun q hq => hl q (List.mem_cons_of_mem _ hq))).trans (upd_ne (Ne.symm (hl (j, v) List.mem_cons_self)))
theorem mk_updK {p : Nat → Bool} : ∀ (l : List (Nat × Int32)) (K : Nat → Int32), (∀ q, q ∈ l → p q.1 = false) → mk p (updK l K) = mk p K
  | [], _, _ => rfl
  | (j, v) :: l, K, hl => (mk_updK l (upd K j v) (fun q hq => hl q (List.mem_cons_of_mem _ hq))).trans (mk_upd (hl (j, v) List.mem_cons_self) K v)
def sSt (j : Nat) : Bool := decide (j ≤ 14) || (decide (50 ≤ j) && decide (j ≤ 82)) || decide (j = 83) || decide (j = 84) || decide (j = 85) || decide (j = 86)
theorem sSt_ns (j : Nat) (hj : NS ≤ j) : sSt j = false := by
  have : 114 ≤ j := hj
  unfold sSt
  rw [decide_eq_false (p := j ≤ 14) (by omega), decide_eq_false (p := j ≤ 82) (by omega), decide_eq_false (p := j = 83) (by omega), decide_eq_false (p := j = 84) (by omega), decide_eq_false (p := j = 85) (by omega), decide_eq_false (p := j = 86) (by omega), Bool.and_false]
  rfl
theorem sSt_im (j : Nat) (h1 : 16 ≤ j) (h2 : j < 44) : sSt j = false := by
  unfold sSt
  rw [decide_eq_false (p := j ≤ 14) (by omega), decide_eq_false (p := 50 ≤ j) (by omega), decide_eq_false (p := j = 83) (by omega), decide_eq_false (p := j = 84) (by omega), decide_eq_false (p := j = 85) (by omega), decide_eq_false (p := j = 86) (by omega), Bool.false_and]
  rfl
/-- a change of the state, class and reference alike: the pieces that it can't touch -/
theorem state_ok {τ : Nat → Nat → TF} {n : Nat} {h h2 : Hp} (hi : InvT τ n h) (E : eqO sSt h h2) (st : StP (hI h2 86) h2 1) (rg : Rg (hI h2 86)) (k1 : hI h2 86 189 = hI h 86 189) (k2 : ∀ j, 192 ≤ j → hI h2 86 j = hI h 86 j)
    (e10 : hI h2 84 10 = hI h 84 10) (e51 : hI h2 84 51 = hI h 84 51) (ss : SS h2) (cc : CC (tin (τ 0) (hI h2 86)) (hI h2 86) h2) (rc : RC (tin (τ 0) (hI h2 86)) (hI h2 86) (n + 1) h2) : InvT τ (n + 1) h2 := by
  obtain ⟨sm, im, tp, ss0, rw0, cc0, rc0, dr, rm, wd⟩ := hi
  have F : Fr sSt h h2 := Fr_of E sSt_ns
  have g : ∀ j, sSt j = false → hI h2 j = hI h j := fun j a => (E.2 j a).1
  refine ⟨⟨st, rg, LW_Fr F (by decide) sm.2.2 k1 k2⟩, IM_Fr F (by decide) (by decide) (by decide) sSt_im im, TP_eq (g 45 (by decide)) (g 46 (by decide)) (g 90 (by decide)) e10 tp, ss, RW_eq E.1 rw0, cc, rc, ?_, RM_eq (by rw [hN_of E.1]; omega) (by rw [hS_of E.1]; omega) rm, WD_eq (g 89 (by decide)) wd⟩
  exact DR_eq (by rw [hR_of E.1]) e51 (g 113 (by decide)) (fun r hr => g r (sSt_ns r (rw0.2.2.1 r hr).1)) dr
/-- granted -/
theorem set_ok {τ : Nat → Nat → TF} {n : Nat} {h B : Hp} (l : List (Nat × Int32)) (hi : InvT τ n h) (hn : n < 512) (hl : ∀ q, q ∈ l → q.1 < 191 ∧ q.1 ≠ 189) (rg : Rg (updK l (hI h 86))) (b1 : B.2.2 = (updC l h).2.2) (b2 : ∀ a, a < 50 ∨ 82 < a → hI B a = hI (updC l h) a ∧ hL B a = hL (updC l h) a)
    (cc : CC (tin (τ 0) (updK l (hI h 86))) (updK l (hI h 86)) B) : InvT τ (n + 1) (gdR (updR l (sI B 0 12 0))) := by
  have hl1 : ∀ q, q ∈ l → q.1 < 191 := fun q hq => (hl q hq).1
  obtain ⟨c1, c2⟩ := updC_fr l h hl1
  obtain ⟨r1, r2, r3⟩ := updR_fr l (sI B 0 12 0)
  have e86 : hI (gdR (updR l (sI B 0 12 0))) 86 = updK l (hI h 86) := by
    show hI (sI (sI (updR l (sI B 0 12 0)) 84 0 0) 84 1 _) 86 = _
    rw [hI_sI_ne (by decide), hI_sI_ne (by decide), r2, hI_sI_ne (by decide), (b2 86 (by omega)).1, c2 86 (by omega)]
  have g0 : ∀ a, a ≠ 86 → a ≠ 84 → a ≠ 0 → hI (gdR (updR l (sI B 0 12 0))) a = hI B a := fun a h1 h2 h3 => by
    show hI (sI (sI (updR l (sI B 0 12 0)) 84 0 0) 84 1 _) a = _
    rw [hI_sI_ne h2, hI_sI_ne h2, r3 a h1, hI_sI_ne h3]
  have l0 : hL (gdR (updR l (sI B 0 12 0))) = hL B := by
    show hL (updR l (sI B 0 12 0)) = _
    unfold hL
    rw [r1]
    rfl
  have t0 : (gdR (updR l (sI B 0 12 0))).2.2 = h.2.2 := by
    show (updR l (sI B 0 12 0)).2.2 = _
    rw [r1]
    show B.2.2 = _
    rw [b1, c1]
  have k84 : ∀ k, k ≠ 0 → k ≠ 1 → hI (gdR (updR l (sI B 0 12 0))) 84 k = hI h 84 k := fun k h1 h2 => by
    show hI (sI (sI (updR l (sI B 0 12 0)) 84 0 0) 84 1 _) 84 k = _
    rw [hI_sI', if_neg (by omega), hI_sI', if_neg (by omega), r3 84 (by decide), hI_sI_ne (by decide), (b2 84 (by omega)).1, c2 84 (by omega)]
  have k0 : hI (gdR (updR l (sI B 0 12 0))) 84 0 = 0 := by
    show hI (sI (sI (updR l (sI B 0 12 0)) 84 0 0) 84 1 _) 84 0 = _
    rw [hI_sI', if_neg (by omega), hI_sI', if_pos ⟨rfl, rfl⟩]
  have k1 : hI (gdR (updR l (sI B 0 12 0))) 84 1 = hI h 84 1 + 1 := by
    show hI (sI (sI (updR l (sI B 0 12 0)) 84 0 0) 84 1 _) 84 1 = _
    rw [hI_sI', if_pos ⟨rfl, rfl⟩, r3 84 (by decide), hI_sI_ne (by decide), (b2 84 (by omega)).1, c2 84 (by omega)]
  have z0 : ∀ k, hI (gdR (updR l (sI B 0 12 0))) 0 k = if k = 12 then 0 else hI h 0 k := fun k => by
    show hI (sI (sI (updR l (sI B 0 12 0)) 84 0 0) 84 1 _) 0 k = _
    rw [hI_sI_ne (by decide), hI_sI_ne (by decide), r3 0 (by decide), hI_sI', (b2 0 (by omega)).1, c2 0 (by omega)]
    by_cases hk : k = 12
    · rw [if_pos ⟨rfl, hk⟩, if_pos hk]
    · rw [if_neg (fun z => hk z.2), if_neg hk]
  have hi0 := hi
  obtain ⟨sm, im, tp, ss, rw0, cc0, rc0, dr, rm, wd⟩ := hi0
  refine state_ok hi ⟨t0, fun j hj => ?_⟩ ?_ (by rw [e86]; exact rg) ?_ (fun j hj => ?_) (k84 10 (by decide) (by decide)) (k84 51 (by decide) (by decide)) ?_ ?_ ?_
  · have hj2 : 14 < j ∧ (j < 50 ∨ 82 < j) ∧ j ≠ 83 ∧ j ≠ 84 ∧ j ≠ 85 ∧ j ≠ 86 := by
      unfold sSt at hj
      simp only [Bool.or_eq_false_iff, Bool.and_eq_false_iff, decide_eq_false_iff_not] at hj
      omega
    refine ⟨?_, ?_⟩
    · rw [g0 j (by omega) (by omega) (by omega), (b2 j hj2.2.1).1, c2 j (by omega)]
    · rw [l0, (b2 j hj2.2.1).2]
      unfold hL
      rw [c1]
  · rw [e86]
    refine StP_fr (updC_st l h (hI h 86) hl1 sm.1) (fun d hd => ?_)
    rw [g0 (1 + d) (by omega) (by omega) (by omega), (b2 (1 + d) (by omega)).1]
  · rw [e86]
    exact updK_ne l _ 189 (fun q hq => (hl q hq).2)
  · rw [e86]
    exact updK_ne l _ j (fun q hq => by have := hl1 q hq; omega)
  · unfold SS at ss ⊢
    rw [k84 6 (by decide) (by decide), k84 11 (by decide) (by decide), k0, z0, z0, z0, if_pos rfl, if_neg (by decide), if_neg (by decide), g0 83 (by decide) (by decide) (by decide), g0 85 (by decide) (by decide) (by decide), (b2 83 (by omega)).1, (b2 85 (by omega)).1, c2 83 (by omega), c2 85 (by omega)]
    exact ⟨rfl, ss.2⟩
  · rw [e86]
    refine CC_eqC ⟨t0.trans (by rw [b1, c1]), fun j hj => ⟨?_, by rw [l0]⟩⟩ (RW_eq (by rw [b1, c1]) rw0) cc
    rcases hj with hj | hj
    · exact g0 j (by omega) (by omega) (by omega)
    · have : 114 ≤ j := hj
      exact g0 j (by omega) (by omega) (by omega)
  · exact RC_bump rc0 hn k1 (k84 28 (by decide) (by decide))
/-- refused -/
theorem refuse_ok {τ : Nat → Nat → TF} {n : Nat} {h : Hp} {v : Int32} (hi : InvT τ n h) (hv : v = -1 ∨ v = -2 ∨ v = -5 ∨ v = -6) : InvT τ (n + 1) (rfR (rfC h v) v) := by
  have g : ∀ a, a ≠ 0 → a ≠ 83 → a ≠ 84 → a ≠ 85 → hI (rfR (rfC h v) v) a = hI h a := fun a h1 h2 h3 h4 => by
    unfold rfR rfC
    rw [hI_sI_ne h4, hI_sI_ne h3, hI_sI_ne h2, hI_sI_ne h1]
  have k84 : ∀ k, k ≠ 0 → hI (rfR (rfC h v) v) 84 k = hI h 84 k := fun k h1 => by
    unfold rfR rfC
    rw [hI_sI_ne (by decide), hI_sI', if_neg (by omega), hI_sI_ne (by decide), hI_sI_ne (by decide)]
  have hi0 := hi
  obtain ⟨sm, im, tp, ss, rw0, cc0, rc0, dr, rm, wd⟩ := hi0
  have e86 : hI (rfR (rfC h v) v) 86 = hI h 86 := g 86 (by decide) (by decide) (by decide) (by decide)
  refine state_ok hi ⟨rfl, fun j hj => ⟨g j ?_ ?_ ?_ ?_, rfl⟩⟩ ?_ ?_ ?_ ?_ (k84 10 (by decide)) (k84 51 (by decide)) ?_ ?_ ?_
  · rintro rfl; cases hj
  · rintro rfl; cases hj
  · rintro rfl; cases hj
  · rintro rfl; cases hj
  · rw [e86]
    exact StP_fr sm.1 (fun d hd => g _ (by omega) (by omega) (by omega) (by omega))
  · rw [e86]; exact sm.2.1
  · rw [e86]
  · rw [e86]; exact fun _ _ => rfl
  · unfold SS at ss ⊢
    rw [k84 6 (by decide), k84 11 (by decide)]
    unfold rfR rfC
    obtain ⟨s1, s2, s3, s4, s5, s6, s7⟩ := ss
    have n1 : (83 : Nat) ≠ 84 := by decide
    have n2 : (83 : Nat) ≠ 85 := by decide
    have n3 : (85 : Nat) ≠ 83 := by decide
    have n4 : (85 : Nat) ≠ 0 := by decide
    rcases hv with rfl | rfl | rfl | rfl <;>
      simp [hI_sI', rfI, s2, s3, s4, s5, s6, s7, show ix 1 = 1 by decide, show ix 2 = 2 by decide, show ix 5 = 5 by decide, show ix 6 = 6 by decide]
  · rw [e86]
    refine CC_eqC (h := h) ⟨rfl, fun j hj => ⟨g j ?_ ?_ ?_ ?_, rfl⟩⟩ rw0 cc0 <;> (rcases hj with hj | hj; omega; have : 114 ≤ j := hj; omega)
  · rw [e86]
    exact RC_eq rc0 (k84 1 (by decide)) (k84 28 (by decide)) (g 97 (by decide) (by decide) (by decide) (by decide)) (g 99 (by decide) (by decide) (by decide) (by decide))
