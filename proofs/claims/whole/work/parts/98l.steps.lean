/-! ways: the steps' flows and white water, the class's -/
def sWy (j : Nat) : Bool := (decide (51 ≤ j) && decide (j ≤ 53)) || (decide (58 ≤ j) && decide (j ≤ 68))
theorem sWy_no {j : Nat} (h : j < 51 ∨ (53 < j ∧ j < 58) ∨ 68 < j) : sWy j = false := by
  unfold sWy
  rcases h with h | h | h
  · rw [decide_eq_false (p := 51 ≤ j) (by omega), decide_eq_false (p := 58 ≤ j) (by omega)]; rfl
  · rw [decide_eq_false (p := j ≤ 53) (by omega), decide_eq_false (p := 58 ≤ j) (by omega), Bool.and_false]; rfl
  · rw [decide_eq_false (p := j ≤ 53) (by omega), decide_eq_false (p := j ≤ 68) (by omega), Bool.and_false, Bool.and_false]; rfl
theorem sWy_of {j : Nat} (h : sWy j = false) : j < 51 ∨ (53 < j ∧ j < 58) ∨ 68 < j := by
  unfold sWy at h
  simp only [Bool.or_eq_false_iff, Bool.and_eq_false_iff, decide_eq_false_iff_not] at h
  omega
theorem sWy_sC (j : Nat) (h : sC j = false) : sWy j = false := by
  unfold sC at h
  simp only [Bool.and_eq_false_iff, decide_eq_false_iff_not] at h
  exact sWy_no (by omega)
theorem sGn_wy (j : Nat) (h : sWy j = false) : sGn j = false := by
  have := sWy_of h
  unfold sGn
  rw [decide_eq_false (p := j = 51) (by omega), decide_eq_false (p := j = 52) (by omega), decide_eq_false (p := j = 53) (by omega)]
  rfl
theorem TX_wy {τ : Nat → TF} {K : Nat → Int32} {h g : Hp} (X : TX τ K h) (E : eqO sWy h g) (c58 : C58 (tin τ K) (mk pF K) g) : TX τ K g := by
  obtain ⟨⟨⟨st, rg, rw0, cc⟩, lw⟩, t1, t2⟩ := X
  have f : ∀ j, (j < 51 ∨ (53 < j ∧ j < 58) ∨ 68 < j) → hI g j = hI h j := fun j h1 => (E.2 j (sWy_no h1)).1
  have hr := hR_of E.1
  obtain ⟨⟨c9, c10, c11, c12, c56, c13, -, c78⟩, c69, c74⟩ := cc
  refine ⟨⟨⟨StP_eq E (fun j h1 h2 => sWy_no (by omega)) st, rg, RW_eq E.1 rw0, ⟨?_, ?_, ?_, ?_, ?_, ?_, c58, ?_⟩, C69_eq (f 69 (by decide)) (f 72 (by decide)) (f 73 (by decide)) rfl rfl c69, C74_eq (f 74 (by decide)) (f 77 (by decide)) rfl c74⟩, LW_eq E (fun j hj _ => sWy_no (by have : 114 ≤ j := hj; omega)) lw⟩, ?_, ?_⟩
  · exact C9_node (f 50 (by decide)) (f 54 (by decide)) c9
  · unfold C10; rw [f 50 (by decide), f 57 (by decide)]; exact c10
  · unfold C11; rw [f 50 (by decide), hr]
    rcases c11 with c | ⟨a, s, b, d⟩
    · exact Or.inl c
    · exact Or.inr ⟨a, s, b, by rw [f s (by have : 114 ≤ s := (rw0.1 s b).1; omega)]; exact d⟩
  · unfold C12; rw [f 50 (by decide), hr, (E.2 56 (by decide)).2]
    rcases c12 with c | ⟨n, a1, a2, a3, s, b, d⟩
    · exact Or.inl c
    · exact Or.inr ⟨n, a1, a2, a3, s, b, by rw [f s (by have : 114 ≤ s := (rw0.2.1 s b).1; omega)]; exact d⟩
  · unfold C56; rw [(E.2 56 (by decide)).2]; exact c56
  · unfold C13; rw [f 50 (by decide)]; exact c13
  · unfold C78 ruOK; rw [f 78 (by decide), f 79 (by decide)]; exact c78
  · unfold TdOK; rw [f 54 (by decide)]; exact t1
  · rw [f 57 (by decide)]; exact t2
/-- flows and white water of step s in water of kind k -/
def SWf (T : TF) (K : Nat → Int32) (h : Hp) : Prop := ∀ s k, s < 144 → k < 6 → hI h 59 (6 * s + k) = fa (mk pF K) (td0 T (mk pF K)) (nI k) (10 * s) ∧ hI h 60 (6 * s + k) = wh T (mk pF K) (td0 T (mk pF K)) (nI k) (10 * s)
def SWi (T : TF) (K : Nat → Int32) (i : Nat) (h : Hp) : Prop := ∀ s k, k < 6 → 6 * s + k < i → hI h 59 (6 * s + k) = fa (mk pF K) (td0 T (mk pF K)) (nI k) (10 * s) ∧ hI h 60 (6 * s + k) = wh T (mk pF K) (td0 T (mk pF K)) (nI k) (10 * s)
theorem p_stepsC {τ : Nat → TF} {K : Nat → Int32} {h : Hp} (X : TX τ K h) : ∃ h2, s_Ways_freshenSteps h = some h2 ∧ eqO sWy h h2 ∧ TX τ K h2 ∧ SWf (tin τ K) K h2 := by
  have X0 := X
  obtain ⟨⟨⟨st, rg, rw0, cc⟩, lw⟩, t1, t2⟩ := X
  rcases cc.1.2.2.2.2.2.2.1 with c | ⟨c1, c2⟩
  · have fx : ∀ g, eqO sWy h g → FX τ K g ∧ ∀ m, m < 1440 → hI g 57 m = td0 (tin τ K) (mk pF K) m := fun g E => by
      refine ⟨⟨StP_eq E (fun j h1 h2 => sWy_no (by omega)) st, rg, LW_eq E (fun j hj _ => sWy_no (by have : 114 ≤ j := hj; omega)) lw, ?_⟩, ?_⟩
      · unfold TdOK; rw [(E.2 54 (by decide)).1]; exact t1
      · rw [(E.2 57 (by decide)).1]; exact t2
    have inner : ∀ (q s k : Nat) (g : Hp), k + q = 6 → s < 144 → eqO sWy h g → SWi (tin τ K) K (6 * s + k) g → ∃ g2, lp (fun q : Int32 × Int32 × Hp => s_Ways_freshenSteps_19 q.1 q.2.1 q.2.2) (nI s, nI k, g) = some (.inl (nI (s + 1), g2)) ∧ eqO sWy h g2 ∧ SWi (tin τ K) K (6 * (s + 1)) g2 := by
      intro q
      induction q with
      | zero =>
        intro s k g hk hs E P
        have hk : k = 6 := by omega
        subst hk
        refine ⟨g, lp_inr ?_, E, by rw [show 6 * (s + 1) = 6 * s + 6 by omega]; exact P⟩
        show s_Ways_freshenSteps_19 (nI s) (nI 6) g = _
        unfold s_Ways_freshenSteps_19
        rw [if_pos (show (6 : Int32) ≤ nI 6 by decide), nI_1]
      | succ q ih =>
        intro s k g hk hs E P
        obtain ⟨F, row⟩ := fx g E
        have E2 : eqO sWy h (sI g 59 (6 * s + k) (fa (mk pF K) (td0 (tin τ K) (mk pF K)) (nI k) (10 * s))) := eqO_sI E (by decide)
        obtain ⟨F2, row2⟩ := fx _ E2
        obtain ⟨u, u1, u2⟩ := p_whiteC F2 row2 (m := 10 * s) (by omega) (nI k)
        have E3 := eqO_trans E2 (eqO_mono u2 sGn_wy)
        have stp : s_Ways_freshenSteps_19 (nI s) (nI k) g = some (.inl (nI s, nI (k + 1), sI u 60 (6 * s + k) (wh (tin τ K) (mk pF K) (td0 (tin τ K) (mk pF K)) (nI k) (10 * s)))) := by
          unfold s_Ways_freshenSteps_19
          rw [if_neg (by rw [show (6 : Int32) = nI 6 from rfl, nI_leI (by decide) (by omega)]; omega), show nI s * 10 = nI (10 * s) by rw [show (10 : Int32) = nI 10 from rfl, nI_mul, Nat.mul_comm], p_flowOf F.1 rg row (by omega), Option.bind_some, show nI s * 6 + nI k = nI (6 * s + k) by rw [show (6 : Int32) = nI 6 from rfl, nI_mul, nI_add, Nat.mul_comm], ib_nI (by omega) (by decide), lt_eq, show ix (nI (6 * s + k)) = 6 * s + k from nI_clamp (by omega), u1, Option.bind_some, ib_nI (by omega) (by decide), nI_1]
        rw [lp_inl stp]
        refine ih s (k + 1) _ (by omega) hs (eqO_sI E3 (by decide)) (fun s2 k2 h2 h3 => ?_)
        rw [hI_sI_ne (i := 59) (by decide), (u2.2 59 (by decide)).1, hI_sI', hI_sI', (u2.2 60 (by decide)).1, hI_sI_ne (i := 60) (by decide)]
        by_cases z : 6 * s2 + k2 = 6 * s + k
        · have : s2 = s ∧ k2 = k := by omega
          rw [this.1, this.2, if_pos ⟨rfl, rfl⟩, if_pos ⟨rfl, rfl⟩]
          exact ⟨rfl, rfl⟩
        · rw [if_neg (fun y => z y.2), if_neg (fun y => z y.2)]
          exact P s2 k2 h2 (by omega)
    have outer : ∀ (q s : Nat) (g : Hp), s + q = 144 → eqO sWy h g → SWi (tin τ K) K (6 * s) g → ∃ g2, lp (fun q : Int32 × Hp => s_Ways_freshenSteps_10 q.1 q.2) (nI s, g) = some g2 ∧ eqO sWy h g2 ∧ hI g2 58 12 = 1 ∧ SWi (tin τ K) K 864 g2 := by
      intro q
      induction q with
      | zero =>
        intro s g hs E P
        have hs : s = 144 := by omega
        subst hs
        refine ⟨sI g 58 12 1, lp_inr ?_, eqO_sI E (by decide), by rw [hI_sI', if_pos ⟨rfl, rfl⟩], fun s k h1 h2 => ?_⟩
        · show s_Ways_freshenSteps_10 (nI 144) g = _
          unfold s_Ways_freshenSteps_10
          rw [if_pos (show (144 : Int32) ≤ nI 144 by decide)]
        · rw [hI_sI_ne (by decide), hI_sI_ne (by decide)]
          exact P s k h1 h2
      | succ q ih =>
        intro s g hs E P
        obtain ⟨g2, a1, a2, a3⟩ := inner 6 s 0 g (by omega) (by omega) E P
        have stp : s_Ways_freshenSteps_10 (nI s) g = some (.inl (nI (s + 1), g2)) := by
          unfold s_Ways_freshenSteps_10
          rw [if_neg (by rw [show (144 : Int32) = nI 144 from rfl, nI_leI (by decide) (by omega)]; omega)]
          exact a1
        rw [lp_inl stp]
        exact ih (s + 1) g2 (by omega) a2 a3
    obtain ⟨g2, a1, a2, a3, a4⟩ := outer 144 0 h (by omega) (eqO_refl _ _) (fun s k h1 h2 => absurd h2 (by omega))
    have sw : SWf (tin τ K) K g2 := fun s k h1 h2 => a4 s k h2 (by omega)
    refine ⟨g2, ?_, a2, TX_wy X0 a2 (Or.inr ⟨a3, sw⟩), sw⟩
    unfold s_Ways_freshenSteps
    rw [if_pos c]
    exact a1
  · refine ⟨h, ?_, eqO_refl _ _, X0, c2⟩
    unfold s_Ways_freshenSteps
    rw [c1, if_neg (by decide)]
