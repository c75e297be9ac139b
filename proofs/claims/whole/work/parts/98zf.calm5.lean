/-! ways: calmest -/
theorem p_ca262 {τ : Nat → TF} {K : Nat → Int32} {b t s m : Nat} {h : Hp} {F : Nat → Nat} (ht : t < 50) (hm : m < 2147483648) (hF : ∀ c, c < 50 → F c < 2147483648) : ∀ (q c : Nat) (g : Hp), c + q = 50 → eqO s123 h g → CRr 103 F g → (∀ x, x < c → hI g 102 x = nI (F x)) → ∃ g2, lp (fun q : Int32 × Int32 × Int32 × Int32 × Int32 × Hp => s_Mod_calmest_262 q.1 q.2.1 q.2.2.1 q.2.2.2.1 q.2.2.2.2.1 q.2.2.2.2.2) (nI b, nI t, nI m, nI s, nI c, g) = some (.inl (nI b, nI t, nI (min m (F t)), nI (s + 1), g2)) ∧ eqO s123 h g2 ∧ CRr 102 F g2 := by
  intro q
  induction q with
  | zero =>
    intro c g hc E R P
    have hc : c = 50 := by omega
    subst hc
    refine ⟨g, lp_inr ?_, E, fun x hx => P x hx⟩
    show s_Mod_calmest_262 (nI b) (nI t) (nI m) (nI s) (nI 50) g = _
    unfold s_Mod_calmest_262 s_Mod_calmest_310
    have ft := hF t ht
    rw [if_pos (show (50 : Int32) ≤ nI 50 by decide), ib_nI ht (by decide), ib_nI ht (by decide), show ix (nI t) = t from nI_clamp (by omega), P t ht, nI_1]
    by_cases z : m ≤ F t
    · rw [if_pos (by rw [nI_leI (by omega) (by omega)]; exact z), Nat.min_eq_left z]
      rfl
    · rw [if_neg (by rw [nI_leI (by omega) (by omega)]; exact z), Nat.min_eq_right (by omega)]
      rfl
  | succ q ih =>
    intro c g hc E R P
    have stp : s_Mod_calmest_262 (nI b) (nI t) (nI m) (nI s) (nI c) g = some (.inl (nI b, nI t, nI m, nI s, nI (c + 1), sI g 102 c (nI (F c)))) := by
      unfold s_Mod_calmest_262
      rw [if_neg (by rw [show (50 : Int32) = nI 50 from rfl, nI_leI (by decide) (by omega)]; omega), ib_nI (by omega) (by decide), ib_nI (by omega) (by decide), show ix (nI c) = c from nI_clamp (by omega), R c (by omega), nI_1]
    rw [lp_inl stp]
    refine ih (c + 1) _ (by omega) (eqO_sI E (by decide)) (fun x hx => by rw [hI_sI_ne (by decide)]; exact R x hx) (fun x hx => ?_)
    rw [hI_sI']
    by_cases z : x = c
    · rw [if_pos ⟨rfl, z⟩, z]
    · rw [if_neg (fun y => z y.2)]; exact P x (by omega)
theorem p_ca138 {τ : Nat → TF} {K : Nat → Int32} {b s0 a t i m : Nat} {h : Hp} (X : LX τ K h) (hb : b < 6) (ht : t < 50) (hs : s0 + i + 1 < 144) (hm : m ≤ 1000000) : ∀ (q c : Nat) (g : Hp), c + q = 50 → eqO s123 h g → CRr 102 (csF (tin τ K) K b s0 a i) g → CRr 103 (ocF (tin τ K) K b (s0 + i) (csF (tin τ K) K b s0 a i) c) g → ∃ g2, lp (fun q : Int32 × Int32 × Int32 × Int32 × Int32 × Hp => s_Mod_calmest_138 q.1 q.2.1 q.2.2.1 q.2.2.2.1 q.2.2.2.2.1 q.2.2.2.2.2) (nI b, nI t, nI m, nI (s0 + i), nI c, g) = some (.inl (nI b, nI t, nI (min m (csF (tin τ K) K b s0 a (i + 1) t)), nI (s0 + i + 1), g2)) ∧ eqO s123 h g2 ∧ CRr 102 (csF (tin τ K) K b s0 a (i + 1)) g2 := by
  have cb := csF_b (T := tin τ K) (K := K) (b := b) (s0 := s0) (a := a) i (by omega)
  have cb2 := csF_b (T := tin τ K) (K := K) (b := b) (s0 := s0) (a := a) (i + 1) (by omega)
  intro q
  induction q with
  | zero =>
    intro c g hc E R2 R3
    have hc : c = 50 := by omega
    subst hc
    obtain ⟨g2, a1, a2, a3⟩ := p_ca262 (τ := τ) (K := K) (b := b) (s := s0 + i) (m := m) (F := csF (tin τ K) K b s0 a (i + 1)) (t := t) ht (by omega) (fun c _ => by have := cb2 c; omega) 50 0 g (by omega) E R3 (fun x hx => absurd hx (by omega))
    refine ⟨g2, lp_inr ?_, a2, a3⟩
    show s_Mod_calmest_138 (nI b) (nI t) (nI m) (nI (s0 + i)) (nI 50) g = _
    unfold s_Mod_calmest_138
    have a1' : lp (fun q : Int32 × Int32 × Int32 × Int32 × Int32 × Hp => s_Mod_calmest_262 q.1 q.2.1 q.2.2.1 q.2.2.2.1 q.2.2.2.2.1 q.2.2.2.2.2) (nI b, nI t, nI m, nI (s0 + i), 0, g) = _ := a1
    rw [if_pos (show (50 : Int32) ≤ nI 50 by decide), a1']
    rfl
  | succ q ih =>
    intro c g hc E R2 R3
    have hc2 : c < 50 := by omega
    have Xg := LX_S X E s123_r
    have cc := cb c
    by_cases z : csF (tin τ K) K b s0 a i c < 1000000
    · obtain ⟨g2, a1, a2, a3⟩ := p_ca163 (t := t) (s := s0 + i) (c := c) (v := csF (tin τ K) K b s0 a i c) (B := 100 * (i + 1) + 100) (best := nI m) Xg hb hc2 hs (by omega) (by omega) (ocF_b (by omega) cb c) (R2 c hc2) 5 0 g (by omega) (eqO_refl _ _) R3
      have stp : s_Mod_calmest_138 (nI b) (nI t) (nI m) (nI (s0 + i)) (nI c) g = some (.inl (nI b, nI t, nI m, nI (s0 + i), nI (c + 1), g2)) := by
        unfold s_Mod_calmest_138
        rw [if_neg (by rw [show (50 : Int32) = nI 50 from rfl, nI_leI (by decide) (by omega)]; omega), ib_nI hc2 (by decide), show ix (nI c) = c from nI_clamp (by omega), R2 c hc2, if_neg (by rw [show (1000000 : Int32) = nI 1000000 from rfl, nI_eq (by omega) (by decide)]; omega)]
        exact a1
      rw [lp_inl stp]
      refine ih (c + 1) g2 (by omega) (eqO_trans E (eqO_mono a2 (fun j hj => decide_eq_false (fun y => by subst y; cases hj)))) (fun x hx => by rw [(a2.2 102 (by decide)).1]; exact R2 x hx) (fun x hx => ?_)
      rw [ocF, if_pos z]
      exact a3 x hx
    · have e : csF (tin τ K) K b s0 a i c = 1000000 := by omega
      have stp : s_Mod_calmest_138 (nI b) (nI t) (nI m) (nI (s0 + i)) (nI c) g = some (.inl (nI b, nI t, nI m, nI (s0 + i), nI (c + 1), g)) := by
        unfold s_Mod_calmest_138 s_Mod_calmest_253
        rw [if_neg (by rw [show (50 : Int32) = nI 50 from rfl, nI_leI (by decide) (by omega)]; omega), ib_nI hc2 (by decide), show ix (nI c) = c from nI_clamp (by omega), R2 c hc2, e, if_pos (show nI 1000000 = (1000000 : Int32) from rfl), nI_1]
      rw [lp_inl stp]
      refine ih (c + 1) g (by omega) E R2 (fun x hx => ?_)
      rw [ocF, if_neg z]
      exact R3 x hx
theorem p_ca113 {τ : Nat → TF} {K : Nat → Int32} {b s0 a t i m : Nat} {h : Hp} (X : LX τ K h) (hb : b < 6) (ht : t < 50) (hs : s0 + i + 1 < 144) (hm : m ≤ 1000000) : ∀ (q c : Nat) (g : Hp), c + q = 50 → eqO s123 h g → CRr 102 (csF (tin τ K) K b s0 a i) g → (∀ x, x < c → hI g 103 x = nI 1000000) → ∃ g2, lp (fun q : Int32 × Int32 × Int32 × Int32 × Int32 × Hp => s_Mod_calmest_113 q.1 q.2.1 q.2.2.1 q.2.2.2.1 q.2.2.2.2.1 q.2.2.2.2.2) (nI b, nI t, nI m, nI (s0 + i), nI c, g) = some (.inl (nI b, nI t, nI (min m (csF (tin τ K) K b s0 a (i + 1) t)), nI (s0 + i + 1), g2)) ∧ eqO s123 h g2 ∧ CRr 102 (csF (tin τ K) K b s0 a (i + 1)) g2 := by
  intro q
  induction q with
  | zero =>
    intro c g hc E R2 R3
    have hc : c = 50 := by omega
    subst hc
    obtain ⟨g2, a1, a2, a3⟩ := p_ca138 (t := t) (m := m) X hb ht hs hm 50 0 g (by omega) E R2 (fun x hx => R3 x hx)
    refine ⟨g2, lp_inr ?_, a2, a3⟩
    show s_Mod_calmest_113 (nI b) (nI t) (nI m) (nI (s0 + i)) (nI 50) g = _
    unfold s_Mod_calmest_113
    have a1' : lp (fun q : Int32 × Int32 × Int32 × Int32 × Int32 × Hp => s_Mod_calmest_138 q.1 q.2.1 q.2.2.1 q.2.2.2.1 q.2.2.2.2.1 q.2.2.2.2.2) (nI b, nI t, nI m, nI (s0 + i), 0, g) = _ := a1
    rw [if_pos (show (50 : Int32) ≤ nI 50 by decide), a1']
    rfl
  | succ q ih =>
    intro c g hc E R2 R3
    have stp : s_Mod_calmest_113 (nI b) (nI t) (nI m) (nI (s0 + i)) (nI c) g = some (.inl (nI b, nI t, nI m, nI (s0 + i), nI (c + 1), sI g 103 c (nI 1000000))) := by
      unfold s_Mod_calmest_113
      rw [if_neg (by rw [show (50 : Int32) = nI 50 from rfl, nI_leI (by decide) (by omega)]; omega), ib_nI (by omega) (by decide), show ix (nI c) = c from nI_clamp (by omega), nI_1]
      rfl
    rw [lp_inl stp]
    refine ih (c + 1) _ (by omega) (eqO_sI E (by decide)) (fun x hx => by rw [hI_sI_ne (by decide)]; exact R2 x hx) (fun x hx => ?_)
    rw [hI_sI']
    by_cases z : x = c
    · rw [if_pos ⟨rfl, z⟩]
    · rw [if_neg (fun y => z y.2)]; exact R3 x (by omega)
theorem p_ca100 {τ : Nat → TF} {K : Nat → Int32} {b s0 a t : Nat} {h : Hp} (X : LX τ K h) (hb : b < 6) (ht : t < 50) : ∀ (q i : Nat) (g : Hp), s0 + i + q = 143 → eqO s123 h g → CRr 102 (csF (tin τ K) K b s0 a i) g → ∃ g2, lp (fun q : Int32 × Int32 × Int32 × Int32 × Hp => s_Mod_calmest_100 q.1 q.2.1 q.2.2.1 q.2.2.2.1 q.2.2.2.2) (nI b, nI t, nI (bcF (tin τ K) K b s0 a t i), nI (s0 + i), g) = some (oI (cmO (tin τ K) K b s0 a t), g2) ∧ eqO s123 h g2 := by
  intro q
  induction q with
  | zero =>
    intro i g hi E R
    have bb := bcF_b (T := tin τ K) (K := K) (b := b) (s0 := s0) (a := a) (t := t) i (by omega)
    refine ⟨g, lp_inr ?_, E⟩
    show s_Mod_calmest_100 (nI b) (nI t) (nI (bcF (tin τ K) K b s0 a t i)) (nI (s0 + i)) g = _
    unfold s_Mod_calmest_100 s_Mod_calmest_329 cmO
    rw [nI_1, if_pos (by rw [show (144 : Int32) = nI 144 from rfl, nI_leI (by decide) (by omega)]; omega), show 143 - s0 = i by omega]
    by_cases z : bcF (tin τ K) K b s0 a t i < 1000000
    · rw [if_neg (by rw [show (1000000 : Int32) = nI 1000000 from rfl, nI_eq (by omega) (by decide)]; omega), if_pos z]
      rfl
    · rw [if_pos (by rw [show (1000000 : Int32) = nI 1000000 from rfl, nI_eq (by omega) (by decide)]; omega), if_neg z]
      rfl
  | succ q ih =>
    intro i g hi E R
    have bb := bcF_b (T := tin τ K) (K := K) (b := b) (s0 := s0) (a := a) (t := t) i (by omega)
    obtain ⟨g2, a1, a2, a3⟩ := p_ca113 (t := t) (s0 := s0) (a := a) (i := i) (m := bcF (tin τ K) K b s0 a t i) X hb ht (by omega) (by omega) 50 0 g (by omega) E R (fun x hx => absurd hx (by omega))
    have stp : s_Mod_calmest_100 (nI b) (nI t) (nI (bcF (tin τ K) K b s0 a t i)) (nI (s0 + i)) g = some (.inl (nI b, nI t, nI (bcF (tin τ K) K b s0 a t (i + 1)), nI (s0 + (i + 1)), g2)) := by
      unfold s_Mod_calmest_100
      rw [nI_1, if_neg (by rw [show (144 : Int32) = nI 144 from rfl, nI_leI (by decide) (by omega)]; omega)]
      exact a1
    rw [lp_inl stp]
    exact ih (i + 1) g2 (by omega) a2 a3
