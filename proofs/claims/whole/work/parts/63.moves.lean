/-! the invariant's pieces over a change -/
def sC (j : Nat) : Bool := decide (50 ≤ j) && decide (j ≤ 82)
def sRf (j : Nat) : Bool := decide (j = 84) || (decide (95 ≤ j) && decide (j ≤ 112))
theorem TP_eq {h h2 : Hp} (e45 : hI h2 45 = hI h 45) (e46 : hI h2 46 = hI h 46) (e90 : hI h2 90 = hI h 90) (e84 : hI h2 84 10 = hI h 84 10) (H : TP h) : TP h2 := by
  unfold TP
  rw [e45, e46, e90, e84]
  exact H
theorem RW_eq {h h2 : Hp} (e : h2.2.2 = h.2.2) (H : RW h) : RW h2 := by
  have hr := hR_of e
  have hrw : ∀ o n, rw1 h o n → rw1 h2 o n := fun o n z r hr => ⟨(z r hr).1, nd_eq e (z r hr).2⟩
  unfold RW
  rw [hr]
  exact ⟨hrw _ _ H.1, hrw _ _ H.2.1, hrw _ _ H.2.2.1, hrw _ _ H.2.2.2.1, H.2.2.2.2.1, H.2.2.2.2.2.1, fun j t r h1 h2 h3 => ⟨(H.2.2.2.2.2.2 j t r h1 h2 h3).1, nd_eq e (H.2.2.2.2.2.2 j t r h1 h2 h3).2⟩⟩
theorem DR_eq {h h2 : Hp} (e : hR h2 50 8 = hR h 50 8) (e51 : hI h2 84 51 = hI h 84 51) (e113 : hI h2 113 = hI h 113) (er : ∀ r, hR h 50 8 = some r → hI h2 r = hI h r) (H : DR h) : DR h2 := by
  unfold DR
  rw [e, e51, e113]
  rcases H with H | ⟨r, h1, h2, h3⟩
  · exact Or.inl H
  · exact Or.inr ⟨r, h1, h2, by rw [er r h1]; exact h3⟩
theorem RM_eq {n : Nat} {h h2 : Hp} (e1 : hN h2 ≤ hN h + 3) (e2 : hS h2 ≤ hS h + 8640) (H : RM n h) : RM (n + 1) h2 := by
  unfold RM at H ⊢
  omega
theorem WD_eq {h h2 : Hp} (e : hI h2 89 = hI h 89) (H : WD h) : WD h2 := by
  unfold WD
  rw [e]
  exact H
theorem RC_bump {T T2 : TF} {K K2 : Nat → Int32} {n : Nat} {h h2 : Hp} (H : RC T K n h) (hn : n < 512) (e1 : hI h2 84 1 = hI h 84 1 + 1) (e2 : hI h2 84 28 = hI h 84 28) : RC T2 K2 (n + 1) h2 := by
  obtain ⟨v, hv, h1, h3, -⟩ := H
  refine ⟨v + 1, by omega, by rw [e1, h1, nI_1], ?_, ?_⟩
  · rw [e2]
    rcases h3 with h3 | ⟨u, hu, h3⟩
    · exact Or.inl h3
    · exact Or.inr ⟨u, by omega, h3⟩
  · intro z
    exfalso
    rw [e1, e2, h1, nI_1] at z
    rcases h3 with h3 | ⟨u, hu, h3⟩
    · rw [h3] at z
      have : (-1 : Int32) < 0 := by decide
      rw [z] at this
      exact nI_pos (by omega) this
    · rw [h3, nI_eq (by omega) (by omega)] at z
      omega
theorem RC_eq {T : TF} {K : Nat → Int32} {n : Nat} {h h2 : Hp} (H : RC T K n h) (e1 : hI h2 84 1 = hI h 84 1) (e2 : hI h2 84 28 = hI h 84 28) (e97 : hI h2 97 = hI h 97) (e99 : hI h2 99 = hI h 99) : RC T K (n + 1) h2 := by
  obtain ⟨v, hv, h1, h3, h4⟩ := H
  refine ⟨v, by omega, by rw [e1]; exact h1, by rw [e2]; exact h3, ?_⟩
  rw [e1, e2, e97, e99]
  exact h4
theorem td_congr {K K2 : Nat → Int32} (hK : ∀ j, j < 30 → K2 j = K j) {e : Nat} (he : e ≤ 1) (m : Int32) : ∀ k, k ≤ 4 → td K2 e m k = td K e m k
  | 0, _ => by
    unfold td
    exact hK _ (by omega)
  | k + 1, hk => by
    unfold td
    rw [td_congr hK he m k (by omega), hK _ (by omega), hK _ (by omega), hK _ (by omega)]
/-- what the class keeps worked out, over a change that leaves it -/
theorem CF_eq {T : TF} {K : Nat → Int32} {h h2 : Hp} (e50 : hI h2 50 = hI h 50) (e54 : hI h2 54 = hI h 54) (e57 : hI h2 57 = hI h 57) (e58 : hI h2 58 = hI h 58) (e59 : hI h2 59 = hI h 59) (e60 : hI h2 60 = hI h 60) (e78 : hI h2 78 = hI h 78) (e79 : hI h2 79 = hI h 79) (l56 : hL h2 56 = hL h 56) (r6 : hR h2 50 6 = hR h 50 6) (r7 : hR h2 50 7 = hR h 50 7) (er6 : ∀ r, hR h 50 6 = some r → hI h2 r = hI h r) (er7 : ∀ r, hR h 50 7 = some r → hI h2 r = hI h r) (H : CF T K h) : CF T K h2 := by
  obtain ⟨c9, c10, c11, c12, c56, c13, c58, c78⟩ := H
  unfold CF
  refine ⟨?_, ?_, ?_, ?_, ?_, ?_, ?_, ?_⟩
  · unfold C9 TdOK; rw [e50, e54]; exact c9
  · unfold C10; rw [e50, e57]; exact c10
  · unfold C11; rw [e50, r6]
    rcases c11 with c | ⟨c1, r, c2, c3⟩
    · exact Or.inl c
    · exact Or.inr ⟨c1, r, c2, by rw [er6 r c2]; exact c3⟩
  · unfold C12; rw [e50, r7, l56]
    rcases c12 with c | ⟨n, c1, c2, c3, r, c4, c5⟩
    · exact Or.inl c
    · exact Or.inr ⟨n, c1, c2, c3, r, c4, by rw [er7 r c4]; exact c5⟩
  · unfold C56; rw [l56]; exact c56
  · unfold C13; rw [e50]; exact c13
  · unfold C58; rw [e58, e59, e60]; exact c58
  · unfold C78 ruOK; rw [e78, e79]; exact c78
theorem C69_eq {T : TF} {K K2 : Nat → Int32} {h h2 : Hp} (e69 : hI h2 69 = hI h 69) (e72 : hI h2 72 = hI h 72) (e73 : hI h2 73 = hI h 73) (eF : mk pF K2 = mk pF K) (eS : mk pS K2 = mk pS K) (H : C69 T K h) : C69 T K2 h2 := by
  unfold C69 lkOK
  rw [e69, e72, e73, eF, eS]
  exact H
theorem C74_eq {K K2 : Nat → Int32} {h h2 : Hp} (e74 : hI h2 74 = hI h 74) (e77 : hI h2 77 = hI h 77) (eD : mk pD K2 = mk pD K) (H : C74 K h) : C74 K2 h2 := by
  unfold C74 sdOK
  rw [e74, e77, eD]
  exact H
/-- nothing is kept worked out but, it may be, the tides -/
theorem CC_old {T : TF} {K : Nat → Int32} {h : Hp} (c9 : C9 (mk pF K) h) (e10 : hI h 50 10 = 0) (e11 : hI h 50 11 = 0) (e12 : hI h 50 12 = -1) (e13 : hI h 50 13 = -1) (e56 : ∀ n, n ≤ 20 → hL h 56 n = -1) (e58 : hI h 58 12 = 0) (e69 : hI h 69 8 = 0) (e74 : hI h 74 5 = -1) (e78 : hI h 78 4 = 0) : CC T K h :=
  ⟨⟨c9, Or.inl e10, Or.inl e11, Or.inl e12, fun n hn => Or.inl (e56 n hn), Or.inl e13, Or.inl e58, Or.inl e78⟩, Or.inl e69, Or.inl e74⟩
/-- the same nodes: all that lies in the class's rooms and in rows made later -/
def eqC (h h2 : Hp) : Prop := h2.2.2 = h.2.2 ∧ ∀ j, (50 ≤ j ∧ j ≤ 82) ∨ NS ≤ j → hI h2 j = hI h j ∧ hL h2 j = hL h j
theorem CC_eqC {T : TF} {K : Nat → Int32} {h h2 : Hp} (E : eqC h h2) (rw_ : RW h) (H : CC T K h) : CC T K h2 := by
  have f : ∀ j, 50 ≤ j → j ≤ 82 → hI h2 j = hI h j := fun j a b => (E.2 j (Or.inl ⟨a, b⟩)).1
  have hr := hR_of E.1
  refine ⟨CF_eq (f 50 (by decide) (by decide)) (f 54 (by decide) (by decide)) (f 57 (by decide) (by decide)) (f 58 (by decide) (by decide)) (f 59 (by decide) (by decide)) (f 60 (by decide) (by decide)) (f 78 (by decide) (by decide)) (f 79 (by decide) (by decide)) (E.2 56 (Or.inl ⟨by decide, by decide⟩)).2 (by rw [hr]) (by rw [hr]) (fun r z => (E.2 r (Or.inr (rw_.1 r z).1)).1) (fun r z => (E.2 r (Or.inr (rw_.2.1 r z).1)).1) H.1, C69_eq (f 69 (by decide) (by decide)) (f 72 (by decide) (by decide)) (f 73 (by decide) (by decide)) rfl rfl H.2.1, C74_eq (f 74 (by decide) (by decide)) (f 77 (by decide) (by decide)) rfl H.2.2⟩
theorem sC_ns (j : Nat) (hj : NS ≤ j) : sC j = false := by
  unfold sC
  have : 114 ≤ j := hj
  rw [decide_eq_false (p := j ≤ 82) (by omega), Bool.and_false]
/-- a question: the class's answer, then the reference's -/
theorem query_ok {τ : Nat → Nat → TF} {n : Nat} {h h1 h2 : Hp} (hi : InvT τ n h) (F : Fr sC h h1) (e8 : hR h1 50 8 = hR h 50 8) (er8 : ∀ r, hR h 50 8 = some r → hI h1 r = hI h r) (rw_ : RW h1) (hn : hN h1 ≤ hN h + 1) (hs : hS h1 ≤ hS h + 8640)
    (cc : CC (tin (τ 0) (hI h 86)) (hI h 86) h1) (E : eqO sRf h1 h2) (m : m84 mnF h1 h2) (rc : RC (tin (τ 0) (hI h 86)) (hI h 86) (n + 1) h2) : InvT τ (n + 1) h2 := by
  obtain ⟨sm, im, tp, ss, rw0, cc0, rc0, dr, rm, wd⟩ := hi
  have F2 : Fr sRf h1 h2 := Fr_of E (fun j hj => by
    have : 114 ≤ j := hj
    unfold sRf
    rw [decide_eq_false (p := j = 84) (by omega), decide_eq_false (p := j ≤ 112) (by omega), Bool.and_false]
    rfl)
  have g : ∀ j, j < NS → sC j = false → sRf j = false → hI h2 j = hI h j := fun j a b c => (E.2 j c).1.trans (F.1 j a b).1
  have k84 : ∀ k, mnF k = true → hI h2 84 k = hI h 84 k := fun k hk => (m k hk).trans (by rw [(F.1 84 (by decide) (by decide)).1])
  have e86 : hI h2 86 = hI h 86 := g 86 (by decide) (by decide) (by decide)
  unfold InvT
  rw [e86]
  refine ⟨?_, ?_, ?_, ?_, RW_eq E.1 rw_, ?_, rc, ?_, ?_, ?_⟩
  · refine SM_Fr F2 (by decide) (by decide) (SM_Fr F (by decide) (by decide) sm)
  · refine IM_Fr F2 (by decide) (by decide) (by decide) (fun j a b => ?_) (IM_Fr F (by decide) (by decide) (by decide) (fun j a b => ?_) im)
    · unfold sRf
      rw [decide_eq_false (p := j = 84) (by omega), decide_eq_false (p := 95 ≤ j) (by omega), Bool.false_and]
      rfl
    · unfold sC
      rw [decide_eq_false (p := 50 ≤ j) (by omega), Bool.false_and]
  · exact TP_eq (g 45 (by decide) (by decide) (by decide)) (g 46 (by decide) (by decide) (by decide)) (g 90 (by decide) (by decide) (by decide)) (k84 10 (by decide)) tp
  · unfold SS
    rw [g 0 (by decide) (by decide) (by decide), g 83 (by decide) (by decide) (by decide), g 85 (by decide) (by decide) (by decide), k84 0 (by decide), k84 6 (by decide), k84 11 (by decide)]
    exact ss
  · refine CC_eqC ⟨E.1, fun j hj => E.2 j ?_⟩ rw_ cc
    unfold sRf
    rw [decide_eq_false (p := j = 84) (by rcases hj with hj | hj; omega; have : 114 ≤ j := hj; omega), Bool.false_or]
    rcases hj with hj | hj
    · rw [decide_eq_false (p := 95 ≤ j) (by omega), Bool.false_and]
    · have : 114 ≤ j := hj
      rw [decide_eq_false (p := j ≤ 112) (by omega), Bool.and_false]
  · refine DR_eq (by rw [hR_of E.1]; exact e8) (k84 51 (by decide)) (g 113 (by decide) (by decide) (by decide)) (fun r hr => ?_) dr
    rw [← er8 r hr]
    have : 114 ≤ r := (rw0.2.2.1 r hr).1
    refine (E.2 r ?_).1
    unfold sRf
    rw [decide_eq_false (p := r = 84) (by omega), decide_eq_false (p := r ≤ 112) (by omega), Bool.and_false]
    rfl
  · exact RM_eq (by rw [hN_of E.1]; omega) (by rw [hS_of E.1]; omega) rm
  · exact WD_eq (g 89 (by decide) (by decide) (by decide)) wd
