/-! ways: calmest, the class's -/
theorem ofF_can {T : TF} {K : Nat → Int32} {b s c v : Nat} {g : Nat → Nat} (rg : Rg K) (hs : s + 1 < 144) (hc : c < 50) (x : Nat) : ∀ j, ofF T K b s c v j g x < 1000000 → g x < 1000000 ∨ canB T K b x (10 * (s + 1)) = true
  | 0, h => Or.inl h
  | j + 1, h => by
    have ih := ofF_can (T := T) (b := b) (v := v) (g := g) rg hs hc x j
    rw [ofF] at h
    cases e : beh T K b c s j 0 with
    | none => rw [e] at h; exact ih h
    | some d =>
      rw [e] at h
      have h : (if x = d then min (ofF T K b s c v j g d) (v + whN T K d (s + 1)) else ofF T K b s c v j g x) < 1000000 := h
      by_cases z : x = d
      · rw [z]; exact Or.inr ((beh_e rg hs hc).mp e).2.2
      · rw [if_neg z] at h
        exact ih h
theorem ocF_can {T : TF} {K : Nat → Int32} {b s : Nat} {f : Nat → Nat} (rg : Rg K) (hs : s + 1 < 144) (x : Nat) : ∀ k, k ≤ 50 → ocF T K b s f k x < 1000000 → canB T K b x (10 * (s + 1)) = true
  | 0, _, h => absurd (show 1000000 < 1000000 from h) (by omega)
  | k + 1, hk, h => by
    have ih := ocF_can (T := T) (b := b) (f := f) rg hs x k (by omega)
    rw [ocF] at h
    by_cases z : f k < 1000000
    · rw [if_pos z] at h
      rcases ofF_can rg hs (by omega) x 5 h with y | y
      · exact ih y
      · exact y
    · rw [if_neg z] at h
      exact ih h
theorem csF_can {T : TF} {K : Nat → Int32} {b s0 a : Nat} (rg : Rg K) : ∀ i x, s0 + i < 144 → csF T K b s0 a i x < 1000000 → canB T K b x (10 * (s0 + i)) = true
  | 0, x, _, h => by
    have h : (if x = a ∧ canB T K b a (10 * s0) = true then whN T K a s0 else 1000000) < 1000000 := h
    by_cases z : x = a ∧ canB T K b a (10 * s0) = true
    · rw [z.1]; exact z.2
    · rw [if_neg z] at h; omega
  | i + 1, x, hi, h => ocF_can rg (by omega) x 50 (Nat.le_refl _) h
theorem s678_w (j : Nat) (h : sWy j = false) : s678 j = false := by
  have := sWy_of h
  unfold s678
  rw [decide_eq_false (p := j = 67) (by omega), decide_eq_false (p := j = 68) (by omega)]
  rfl
theorem one_678 {r : Nat} (hr : r = 67 ∨ r = 68) (j : Nat) (h : s678 j = false) : decide (j = r) = false := decide_eq_false (fun z => by subst z; rcases hr with rfl | rfl <;> cases h)
theorem p_lw71 {τ : Nat → TF} {K : Nat → Int32} {b s0 a t i r4 r5 m : Nat} {h : Hp} (X : WX τ K b h) (ht : t < 50) (hs : s0 + i + 1 < 144) (h4 : r4 = 67 ∨ r4 = 68) (h5 : r5 = 67 ∨ r5 = 68) (h45 : r4 ≠ r5) (hm : m ≤ 1000000) : ∀ (q c : Nat) (g : Hp), c + q = 50 → eqO s678 h g → CRr r4 (csF (tin τ K) K b s0 a i) g → CRr r5 (ocF (tin τ K) K b (s0 + i) (csF (tin τ K) K b s0 a i) c) g → ∃ g2, lp (fun q : Int32 × Nat × Nat × Int32 × Int32 × Int32 × Hp => s_Ways_leastWhite_71 q.1 q.2.1 q.2.2.1 q.2.2.2.1 q.2.2.2.2.1 q.2.2.2.2.2.1 q.2.2.2.2.2.2) (nI t, r4, r5, nI m, nI (s0 + i), nI c, g) = some (.inl (nI t, r5, r4, nI (min m (csF (tin τ K) K b s0 a (i + 1) t)), nI (s0 + i + 1), g2)) ∧ eqO s678 h g2 ∧ CRr r5 (csF (tin τ K) K b s0 a (i + 1)) g2 := by
  have rg := X.1.1.1.2.1
  have cb := csF_b (T := tin τ K) (K := K) (b := b) (s0 := s0) (a := a) i (by omega)
  intro q
  induction q with
  | zero =>
    intro c g hc E R4 R5
    have hc : c = 50 := by omega
    subst hc
    have n5 : nd g r5 0 50 := by rcases h5 with rfl | rfl <;> exact nd_of (by decide) rfl
    have cb2 := csF_b (T := tin τ K) (K := K) (b := b) (s0 := s0) (a := a) (i + 1) (by omega) t
    refine ⟨g, lp_inr ?_, E, R5⟩
    show s_Ways_leastWhite_71 (nI t) r4 r5 (nI m) (nI (s0 + i)) (nI 50) g = _
    unfold s_Ways_leastWhite_71
    have et : hI g r5 t = nI (csF (tin τ K) K b s0 a (i + 1) t) := R5 t ht
    rw [if_pos (show (50 : Int32) ≤ nI 50 by decide), ak_some n5, ln_of n5, ib_nI ht (by decide), show ix (nI t) = t from nI_clamp (by omega), et, z_min_nI (by omega) (by omega), nI_1]
  | succ q ih =>
    intro c g hc E R4 R5
    have hc2 : c < 50 := by omega
    have n4 : nd g r4 0 50 := by rcases h4 with rfl | rfl <;> exact nd_of (by decide) rfl
    have Xg := WX_678 X E
    have e103 : ∀ g1, s_Ways_leastWhite_103 (nI t) r4 r5 (nI m) (nI (s0 + i)) (nI c) g1 = some (.inl (nI t, r4, r5, nI m, nI (s0 + i), nI (c + 1), g1)) := fun g1 => by
      unfold s_Ways_leastWhite_103
      rw [nI_1]
    have cc := cb c
    by_cases z : csF (tin τ K) K b s0 a i c < 1000000
    · have vb : csF (tin τ K) K b s0 a i c < 100 * (i + 1) := by omega
      obtain ⟨g2, a1, a2, a3⟩ := p_offer (v := csF (tin τ K) K b s0 a i c) (B := 100 * (i + 1) + 100) (r := r5) Xg hc2 (s := s0 + i) hs (canB_k rg hc2 (csF_can rg i c (by omega) z)) h5 (by omega) (by omega) (ocF_b (by omega) cb c) R5
      have stp : s_Ways_leastWhite_71 (nI t) r4 r5 (nI m) (nI (s0 + i)) (nI c) g = some (.inl (nI t, r4, r5, nI m, nI (s0 + i), nI (c + 1), g2)) := by
        unfold s_Ways_leastWhite_71
        rw [if_neg (by rw [show (50 : Int32) = nI 50 from rfl, nI_leI (by decide) (by omega)]; omega), ak_some n4, ln_of n4, ib_nI hc2 (by decide), show ix (nI c) = c from nI_clamp (by omega), R4 c hc2, if_neg (by rw [show (1000000 : Int32) = nI 1000000 from rfl, nI_leI (by decide) (by omega)]; omega), ak_some n4, ib_nI hc2 (by decide), a1, Option.bind_some]
        exact e103 g2
      rw [lp_inl stp]
      refine ih (c + 1) g2 (by omega) (eqO_trans E (eqO_mono a2 (one_678 h5))) (fun x hx => by rw [(a2.2 r4 (decide_eq_false h45)).1]; exact R4 x hx) (fun x hx => ?_)
      rw [ocF, if_pos z]
      exact a3 x hx
    · have e : csF (tin τ K) K b s0 a i c = 1000000 := by omega
      have stp : s_Ways_leastWhite_71 (nI t) r4 r5 (nI m) (nI (s0 + i)) (nI c) g = some (.inl (nI t, r4, r5, nI m, nI (s0 + i), nI (c + 1), g)) := by
        unfold s_Ways_leastWhite_71
        rw [if_neg (by rw [show (50 : Int32) = nI 50 from rfl, nI_leI (by decide) (by omega)]; omega), ak_some n4, ln_of n4, ib_nI hc2 (by decide), show ix (nI c) = c from nI_clamp (by omega), R4 c hc2, e, if_pos (show (1000000 : Int32) ≤ nI 1000000 by decide)]
        exact e103 g
      rw [lp_inl stp]
      refine ih (c + 1) g (by omega) E R4 (fun x hx => ?_)
      rw [ocF, if_neg z]
      exact R5 x hx
theorem p_lw53 {τ : Nat → TF} {K : Nat → Int32} {b s0 a t : Nat} {h : Hp} (X : WX τ K b h) (hs0 : s0 < 144) (ht : t < 50) : ∀ (q i r4 r5 : Nat) (g : Hp), s0 + i + q = 143 → (r4 = 67 ∨ r4 = 68) → (r5 = 67 ∨ r5 = 68) → r4 ≠ r5 → eqO s678 h g → CRr r4 (csF (tin τ K) K b s0 a i) g → ∃ g2, lp (fun q : Int32 × Nat × Nat × Int32 × Int32 × Hp => s_Ways_leastWhite_53 q.1 q.2.1 q.2.2.1 q.2.2.2.1 q.2.2.2.2.1 q.2.2.2.2.2) (nI t, r4, r5, nI (bcF (tin τ K) K b s0 a t i), nI (s0 + i), g) = some (oI (cmO (tin τ K) K b s0 a t), g2) ∧ eqO s678 h g2 := by
  intro q
  induction q with
  | zero =>
    intro i r4 r5 g hi h4 h5 h45 E R4
    have bb := bcF_b (T := tin τ K) (K := K) (b := b) (s0 := s0) (a := a) (t := t) i (by omega)
    refine ⟨g, lp_inr ?_, E⟩
    show s_Ways_leastWhite_53 (nI t) r4 r5 (nI (bcF (tin τ K) K b s0 a t i)) (nI (s0 + i)) g = _
    unfold s_Ways_leastWhite_53 s_Ways_leastWhite_151 cmO
    rw [if_pos (by rw [show (143 : Int32) = nI 143 from rfl, nI_leI (by decide) (by omega)]; omega), show 143 - s0 = i by omega]
    by_cases z : bcF (tin τ K) K b s0 a t i < 1000000
    · rw [if_neg (by rw [show (1000000 : Int32) = nI 1000000 from rfl, nI_leI (by decide) (by omega)]; omega), if_pos z]
      rfl
    · rw [if_pos (by rw [show (1000000 : Int32) = nI 1000000 from rfl, nI_leI (by decide) (by omega)]; omega), if_neg z]
      rfl
  | succ q ih =>
    intro i r4 r5 g hi h4 h5 h45 E R4
    have bb := bcF_b (T := tin τ K) (K := K) (b := b) (s0 := s0) (a := a) (t := t) i (by omega)
    have n5 : nd g r5 0 50 := by rcases h5 with rfl | rfl <;> exact nd_of (by decide) rfl
    have s5 : s678 r5 = true := by rcases h5 with rfl | rfl <;> rfl
    obtain ⟨g2, a1, a2, a3⟩ := p_lw71 (t := t) (s0 := s0) (a := a) (i := i) (m := bcF (tin τ K) K b s0 a t i) X ht (by omega) h4 h5 h45 (by omega) 50 0 (wI g r5 (fun k => if k < 50 then 1000000 else hI g r5 k)) (by omega) (eqO_wI E s5) (fun x hx => by rw [hI_wI_ne h45]; exact R4 x hx) (fun x hx => by rw [hI_wI, if_pos hx]; rfl)
    have stp : s_Ways_leastWhite_53 (nI t) r4 r5 (nI (bcF (tin τ K) K b s0 a t i)) (nI (s0 + i)) g = some (.inl (nI t, r5, r4, nI (bcF (tin τ K) K b s0 a t (i + 1)), nI (s0 + (i + 1)), g2)) := by
      unfold s_Ways_leastWhite_53
      rw [if_neg (by rw [show (143 : Int32) = nI 143 from rfl, nI_leI (by decide) (by omega)]; omega), p_fillI n5 (by decide), Option.bind_some]
      exact a1
    rw [lp_inl stp]
    exact ih (i + 1) r5 r4 g2 (by omega) h5 h4 (Ne.symm h45) a2 a3
theorem p_leastC {τ : Nat → TF} {K : Nat → Int32} {b s0 a t : Nat} {h : Hp} (X : WX τ K b h) (hs0 : s0 < 144) (ha : a < 50) (ht : t < 50) : ∃ h2, s_Ways_leastWhite (nI s0) (nI a) (nI t) h = some (oI (cmO (tin τ K) K b s0 a t), h2) ∧ eqO s678 h h2 := by
  have rg := X.1.1.1.2.1
  unfold s_Ways_leastWhite
  rw [ib_nI hs0 (by decide), show ix (nI s0) = s0 from nI_clamp (by omega), p_has _ ha, Option.bind_some, canB_bt rg (X.2.2 s0 hs0) ha]
  cases e : canB (tin τ K) K b a (10 * s0)
  · rw [if_pos (show (if false = true then (1 : Int32) else 0) = 0 by decide)]
    refine ⟨h, ?_, eqO_refl _ _⟩
    unfold cmO
    rw [bcF_dead e, if_neg (by omega)]
    rfl
  · have E1 : eqO s678 h (wI h 67 (fun k => if k < 50 then 1000000 else hI h 67 k)) := eqO_wI (eqO_refl _ _) (by decide)
    have E2 : eqO s678 h (sI (wI h 67 (fun k => if k < 50 then 1000000 else hI h 67 k)) 67 a (nI (whN (tin τ K) K a s0))) := eqO_sI E1 (by decide)
    have C0 : CRr 67 (csF (tin τ K) K b s0 a 0) (sI (wI h 67 (fun k => if k < 50 then 1000000 else hI h 67 k)) 67 a (nI (whN (tin τ K) K a s0))) := fun c hc => by
      rw [hI_sI', hI_wI]
      show _ = nI (if c = a ∧ canB (tin τ K) K b a (10 * s0) = true then whN (tin τ K) K a s0 else 1000000)
      by_cases z : c = a
      · rw [if_pos ⟨rfl, z⟩, if_pos ⟨z, e⟩]
      · rw [if_neg (fun y : 67 = 67 ∧ c = a => z y.2), if_pos hc, if_neg (fun y : c = a ∧ canB (tin τ K) K b a (10 * s0) = true => z y.1)]
        rfl
    rw [if_neg (show ¬ (if true = true then (1 : Int32) else 0) = 0 by decide), p_fillI (n := 50) (nd_of (by decide) rfl) (by decide), Option.bind_some, p_whiteAt (WX_678 X E1) ha hs0, Option.bind_some, ib_nI ha (by decide), lt_eq, show ix (nI a) = a from nI_clamp (by omega), ib_nI ht (by decide), show ix (nI t) = t from nI_clamp (by omega), C0 t ht]
    exact p_lw53 X hs0 ht (143 - s0) 0 67 68 _ (by omega) (Or.inl rfl) (Or.inr rfl) (by decide) E2 C0
