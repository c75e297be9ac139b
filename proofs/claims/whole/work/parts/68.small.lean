/-! tear, status, foul, fault, count, drawn, end, level -/
theorem InvT_up {τ : Nat → Nat → TF} {n : Nat} {h : Hp} (hi : InvT τ n h) : InvT τ (n + 1) h := by
  obtain ⟨sm, im, tp, ss, rw0, cc, rc, dr, rm, wd⟩ := hi
  exact ⟨sm, im, tp, ss, rw0, cc, RC_eq rc rfl rfl rfl rfl, dr, RM_eq (by omega) (by omega) rm, wd⟩
theorem Inv_up (n : Nat) (h : Hp) (hi : Inv n h) : Inv (n + 1) h := by
  obtain ⟨τ, hi⟩ := hi
  exact ⟨τ, InvT_up hi⟩
theorem Q_status (n : Nat) (h : Hp) (_ : n < 512) (hi : Inv n h) : ∃ h2, q_status h = some h2 ∧ Inv (n + 1) h2 := by
  have e : q_status h = some h := by
    obtain ⟨τ, hi⟩ := hi
    unfold q_status s_Race_status s_Mod_status
    rw [Option.bind_some, Option.bind_some, if_pos hi.2.2.2.1.1]
  exact ⟨h, e, Inv_up n h hi⟩
theorem Q_foul (n : Nat) (h : Hp) (_ : n < 512) (hi : Inv n h) : ∃ h2, q_foul h = some h2 ∧ Inv (n + 1) h2 := by
  have e : q_foul h = some h := by
    obtain ⟨τ, hi⟩ := hi
    unfold q_foul s_Race_foul s_Mod_foul
    rw [Option.bind_some, Option.bind_some, if_pos hi.2.2.2.1.2.1]
  exact ⟨h, e, Inv_up n h hi⟩
theorem Q_fault (n : Nat) (h : Hp) (_ : n < 512) (hi : Inv n h) : ∃ h2, q_fault h = some h2 ∧ Inv (n + 1) h2 := by
  have e : q_fault h = some h := by
    obtain ⟨τ, hi⟩ := hi
    unfold q_fault s_Race_fault s_Mod_fault
    rw [Option.bind_some, Option.bind_some, if_pos hi.2.2.2.1.2.2.1]
  exact ⟨h, e, Inv_up n h hi⟩
theorem Q_tear (n : Nat) (h : Hp) (hn : n < 512) (hi : Inv n h) : ∃ h2, q_tear h = some h2 ∧ Inv (n + 1) h2 := by
  obtain ⟨τ, hi⟩ := hi
  unfold q_tear
  rw [C_tear, Option.bind_some, R_tear, Option.bind_some]
  have e187 : pl 187 = (0, 16) := by decide
  rw [if_pos (show hI h 1 16 = hI (sI h 1 16 0) 86 187 by rw [hI_sI_ne (by decide)]; exact Inv_K hi (by decide) e187)]
  refine ⟨_, rfl, τ, ?_⟩
  have v1 : hI (sI h 1 16 0) 84 1 = hI h 84 1 := by rw [hI_sI_ne (by decide)]
  show InvT τ (n + 1) (sI (sI (sI h 1 16 0) 86 187 0) 84 1 (hI (sI h 1 16 0) 84 1 + 1))
  rw [v1]
  have g : ∀ a, a ≠ 1 → a ≠ 86 → a ≠ 84 → hI (sI (sI (sI h 1 16 0) 86 187 0) 84 1 (hI h 84 1 + 1)) a = hI h a := fun a h1 h2 h3 => by
    rw [hI_sI_ne h3, hI_sI_ne h2, hI_sI_ne h1]
  have k84 : ∀ k, k ≠ 1 → hI (sI (sI (sI h 1 16 0) 86 187 0) 84 1 (hI h 84 1 + 1)) 84 k = hI h 84 k := fun k h1 => by
    rw [hI_sI', if_neg (by omega), hI_sI_ne (by decide), hI_sI_ne (by decide)]
  have e86 : hI (sI (sI (sI h 1 16 0) 86 187 0) 84 1 (hI h 84 1 + 1)) 86 = upd (hI h 86) 187 0 := by
    rw [hI_sI_ne (by decide), hI_sI, hI_sI_ne (by decide)]
  have hi0 := hi
  obtain ⟨sm, im, tp, ss, rw0, cc0, rc0, dr, rm, wd⟩ := hi0
  refine state_ok hi ⟨rfl, fun j hj => ⟨g j ?_ ?_ ?_, rfl⟩⟩ ?_ ?_ ?_ ?_ (k84 10 (by decide)) (k84 51 (by decide)) ?_ ?_ ?_
  · rintro rfl; cases hj
  · rintro rfl; cases hj
  · rintro rfl; cases hj
  · rw [e86]
    refine StP_fr (StP_set sm.1 (by decide) e187) (fun d hd => ?_)
    rw [hI_sI_ne (by omega), hI_sI_ne (by omega)]
  · rw [e86]
    exact Rg_cnt sm.2.1 (Or.inl rfl) (by unfold inR; decide)
  · rw [e86, upd_ne (by decide)]
  · intro j hj
    rw [e86, upd_ne (by omega)]
  · unfold SS at ss ⊢
    rw [k84 0 (by decide), k84 6 (by decide), k84 11 (by decide), g 0 (by decide) (by decide) (by decide), g 83 (by decide) (by decide) (by decide), g 85 (by decide) (by decide) (by decide)]
    exact ss
  · rw [e86]
    refine CC_same (l := [(187, 0)]) rw0 cc0 (all1 ⟨show pF 187 = false by decide, show 187 ≠ 190 by decide⟩) rfl (fun a h1 h2 h3 => ?_) rfl (Or.inr ⟨g 69 (by decide) (by decide) (by decide), all1 (show pS 187 = false by decide)⟩) (Or.inr ⟨g 74 (by decide) (by decide) (by decide), all1 (show pD 187 = false by decide)⟩)
    refine g a ?_ ?_ ?_ <;> (rcases h1 with h1 | h1; omega; have : 114 ≤ a := h1; omega)
  · exact RC_bump rc0 hn (by rw [hI_sI', if_pos ⟨rfl, rfl⟩]) (k84 28 (by decide))
theorem Q_count (n : Nat) (x1 : Int32) (h : Hp) (_ : n < 512) (hi : Inv n h) : ∃ h2, q_count x1 h = some h2 ∧ Inv (n + 1) h2 := by
  have e : q_count x1 h = some h := by
    obtain ⟨τ, hi⟩ := hi
    have c : s_Race_count x1 h = s_Mod_count x1 h := by
      obtain ⟨sm, im, ⟨k, hk, t1, t2, -⟩, ss, -⟩ := hi
      unfold SS at ss
      obtain ⟨s1, s2, s3, s4, s5, s6, s7⟩ := ss
      have a0 : hI h 1 15 = hI h 86 185 := StP_at sm.1 (by decide) (show pl 185 = (0, 15) by decide)
      have a1 : hI h 1 17 = hI h 86 186 := StP_at sm.1 (by decide) (show pl 186 = (0, 17) by decide)
      have a2 : hI h 1 13 = hI h 86 189 := StP_at sm.1 (by decide) (show pl 189 = (0, 13) by decide)
      have a3 : hI h 1 16 = hI h 86 187 := StP_at sm.1 (by decide) (show pl 187 = (0, 16) by decide)
      have a4 : hI h 1 18 = hI h 86 188 := StP_at sm.1 (by decide) (show pl 188 = (0, 18) by decide)
      have a10 : hI h 1 14 = hI h 86 190 := StP_at sm.1 (by decide) (show pl 190 = (0, 14) by decide)
      have c6 : s_Race_count_108 6 h = some (hI h 83 0) := rfl
      have c7 : s_Race_count_108 7 h = some (hI h 83 1) := rfl
      have c8 : s_Race_count_108 8 h = some (hI h 83 2) := rfl
      have c9 : s_Race_count_108 9 h = some (hI h 83 3) := rfl
      have d6 : s_Mod_count_110 6 h = some (hI h 85 1) := rfl
      have d7 : s_Mod_count_110 7 h = some (hI h 85 2) := rfl
      unfold s_Race_count s_Mod_count
      by_cases h0 : x1 = 0
      · subst h0; rw [if_pos rfl, if_pos rfl, a0]; rfl
      rw [if_neg h0, if_neg h0]
      by_cases h1 : x1 = 1
      · subst h1; rw [if_pos rfl, if_pos rfl, a1]; rfl
      rw [if_neg h1, if_neg h1]
      by_cases h2 : x1 = 2
      · subst h2; rw [if_pos rfl, if_pos rfl, a2]; rfl
      rw [if_neg h2, if_neg h2]
      by_cases h3 : x1 = 3
      · subst h3; rw [if_pos rfl, if_pos rfl, a3]; rfl
      rw [if_neg h3, if_neg h3]
      by_cases h4 : x1 = 4
      · subst h4; rw [if_pos rfl, if_pos rfl, a4]; rfl
      rw [if_neg h4, if_neg h4]
      by_cases h5 : x1 = 5
      · subst h5; rw [if_pos rfl, if_pos rfl, t1, t2]
      rw [if_neg h5, if_neg h5]
      by_cases h6 : x1 = 6
      · subst h6; rw [if_pos rfl, if_pos rfl, c6, d6, s4]
      rw [if_neg h6, if_neg h6]
      by_cases h7 : x1 = 7
      · subst h7; rw [if_pos rfl, if_pos rfl, c7, d7, s5]
      rw [if_neg h7, if_neg h7]
      by_cases h8 : x1 = 8
      · subst h8; rw [if_pos rfl, if_pos rfl, c8, s6]; rfl
      rw [if_neg h8, if_neg h8]
      by_cases h9 : x1 = 9
      · subst h9; rw [if_pos rfl, if_pos rfl, c9, s7]; rfl
      rw [if_neg h9, if_neg h9]
      by_cases h10 : x1 = 10
      · subst h10; rw [if_pos rfl, if_pos rfl, a10]; rfl
      rw [if_neg h10, if_neg h10]
    have c2 : ∃ v, s_Mod_count x1 h = some v := by
      unfold s_Mod_count
      by_cases h0 : x1 = 0
      · subst h0; exact ⟨_, rfl⟩
      rw [if_neg h0]
      by_cases h1 : x1 = 1
      · subst h1; exact ⟨_, rfl⟩
      rw [if_neg h1]
      by_cases h2 : x1 = 2
      · subst h2; exact ⟨_, rfl⟩
      rw [if_neg h2]
      by_cases h3 : x1 = 3
      · subst h3; exact ⟨_, rfl⟩
      rw [if_neg h3]
      by_cases h4 : x1 = 4
      · subst h4; exact ⟨_, rfl⟩
      rw [if_neg h4]
      by_cases h5 : x1 = 5
      · subst h5; exact ⟨_, rfl⟩
      rw [if_neg h5]
      by_cases h6 : x1 = 6
      · subst h6; exact ⟨_, rfl⟩
      rw [if_neg h6]
      by_cases h7 : x1 = 7
      · subst h7; exact ⟨_, rfl⟩
      rw [if_neg h7]
      by_cases h8 : x1 = 8
      · subst h8; exact ⟨_, rfl⟩
      rw [if_neg h8]
      by_cases h9 : x1 = 9
      · subst h9; exact ⟨_, rfl⟩
      rw [if_neg h9]
      by_cases h10 : x1 = 10
      · subst h10; exact ⟨_, rfl⟩
      rw [if_neg h10]
      exact ⟨_, rfl⟩
    obtain ⟨v, hv⟩ := c2
    unfold q_count
    rw [c, hv, Option.bind_some, Option.bind_some, if_pos rfl]
  exact ⟨h, e, Inv_up n h hi⟩
theorem nq_none {α : Type} (A : Option α) (F : Nat → Option α) : nq none A F = A := rfl
theorem nq_some {α : Type} (r : Nat) (A : Option α) (F : Nat → Option α) : nq (some r) A F = F r := rfl
theorem nn_some {α : Type} (r : Nat) (F : Nat → Option α) : nn (some r) F = F r := rfl
theorem Q_drawn (n : Nat) (x1 : Int32) (h : Hp) (_ : n < 512) (hi : Inv n h) : ∃ h2, q_drawn x1 h = some h2 ∧ Inv (n + 1) h2 := by
  have e : q_drawn x1 h = some h := by
    obtain ⟨τ, hi⟩ := hi
    obtain ⟨sm, im, tp, ss, rw0, cc, rc, dr, rm, wd⟩ := hi
    unfold q_drawn
    simp only [s_Race_drawn, s_Race_drawn_17, s_Race_drawn_31, s_Mod_drawn, s_Mod_drawn_23, s_Mod_drawn_26, p_isMinuteC, p_isMinuteR, Option.bind_some]
    rcases dr with ⟨d1, d2⟩ | ⟨r, d1, d2, d3⟩
    · rw [d1, nq_none, d2, if_pos rfl, Option.bind_some, Option.bind_some, if_pos rfl]
    · rw [d1, nq_some, d2, if_neg (show ¬ (1 : Int32) = 0 by decide)]
      by_cases hm : wi x1 0 1439 = 0
      · rw [if_pos hm, if_pos hm, Option.bind_some, Option.bind_some, if_pos rfl]
      · rw [if_neg hm, if_neg hm, nn_some]
        obtain ⟨k1, e1⟩ := wi_ix (b := 1439) (by decide) hm
        have nr := (rw0.2.2.1 r d1).2
        rw [e1, ak_some nr, ln_of nr, ib_nI (by omega) (by decide), ib_nI (by omega) (by decide), Option.bind_some, Option.bind_some, if_pos]
        have : ix (nI (ix x1)) = ix x1 := nI_clamp (by omega)
        rw [this]
        exact d3 _ (by omega)
  exact ⟨h, e, Inv_up n h hi⟩
theorem Q_end (n : Nat) (x1 : Int32) (h : Hp) (hn : n < 512) (hi : Inv n h) : ∃ h2, q_end x1 h = some h2 ∧ Inv (n + 1) h2 := by
  obtain ⟨τ, hi⟩ := hi
  unfold q_end
  have hi0 := hi
  obtain ⟨sm, im, ⟨k, hk, t1, t2, t3⟩, ss, rw0, cc, rc, dr, rm, wd⟩ := hi0
  simp only [s_Race_end, s_Mod_end, p_within, p_lies, Option.bind_some]
  by_cases hb : wi x1 0 (nI k) = 0
  · rw [t1, if_pos hb, Option.bind_some]
    show ∃ h2, (((if wi x1 0 (hI h 84 10) = 0 then some (-1, h) else some (x1, sI h 84 10 x1)) : Option (Int32 × Hp)).bind fun w => if (-1 : Int32) = w.1 then some w.2 else none) = some h2 ∧ _
    rw [t2, if_pos hb, Option.bind_some, if_pos rfl]
    exact ⟨_, rfl, τ, InvT_up hi⟩
  · rw [t1, if_neg hb, Option.bind_some]
    show ∃ h2, (((if wi x1 0 (hI (sI h 45 1 x1) 84 10) = 0 then some (-1, (sI h 45 1 x1)) else some (x1, sI (sI h 45 1 x1) 84 10 x1)) : Option (Int32 × Hp)).bind fun w => if x1 = w.1 then some w.2 else none) = some h2 ∧ _
    rw [hI_sI_ne (by decide), t2, if_neg hb, Option.bind_some, if_pos rfl]
    refine ⟨_, rfl, τ, ?_⟩
    obtain ⟨j, hj, rfl⟩ := wi_nat (b := k) (by omega) (wi_n0 hb)
    have g : ∀ a, a ≠ 45 → a ≠ 84 → hI (sI (sI h 45 1 (nI j)) 84 10 (nI j)) a = hI h a := fun a h1 h2 => by rw [hI_sI_ne h2, hI_sI_ne h1]
    have k84 : ∀ q, q ≠ 10 → hI (sI (sI h 45 1 (nI j)) 84 10 (nI j)) 84 q = hI h 84 q := fun q h1 => by rw [hI_sI', if_neg (by omega), hI_sI_ne (by decide)]
    have E : eqO (fun a => decide (a = 45) || decide (a = 84)) h (sI (sI h 45 1 (nI j)) 84 10 (nI j)) := eqO_sI (eqO_sI (eqO_refl _ _) (by decide)) (by decide)
    have F := Fr_of E (fun a ha => by
      have : 114 ≤ a := ha
      show (decide (a = 45) || decide (a = 84)) = false
      rw [decide_eq_false (p := a = 45) (by omega), decide_eq_false (p := a = 84) (by omega)]; rfl)
    have e86 : hI (sI (sI h 45 1 (nI j)) 84 10 (nI j)) 86 = hI h 86 := g 86 (by decide) (by decide)
    unfold InvT
    show SM (τ 0) (hI (sI (sI h 45 1 (nI j)) 84 10 (nI j)) 86) (sI (sI h 45 1 (nI j)) 84 10 (nI j)) 1 ∧ _
    rw [e86]
    refine ⟨SM_Fr F (by decide) (by decide) sm, IM_Fr F (by decide) (by decide) (by decide) (fun a h1 h2 => ?_) im, ?_, ?_, RW_eq rfl rw0, CC_eqC (h := h) ⟨rfl, fun a ha => ⟨g a (by rcases ha with ha | ha; omega; have : 114 ≤ a := ha; omega) (by rcases ha with ha | ha; omega; have : 114 ≤ a := ha; omega), rfl⟩⟩ rw0 cc, RC_eq rc (k84 1 (by decide)) (k84 28 (by decide)) (g 97 (by decide) (by decide)) (g 99 (by decide) (by decide)), ?_, RM_eq (h := h) (by show hN h ≤ _; omega) (by show hS h ≤ _; omega) rm, WD_eq (g 89 (by decide) (by decide)) wd⟩
    · show (decide (a = 45) || decide (a = 84)) = false
      rw [decide_eq_false (p := a = 45) (by omega), decide_eq_false (p := a = 84) (by omega)]; rfl
    · refine ⟨j, by omega, ?_, ?_, ?_⟩
      · rw [hI_sI_ne (by decide), hI_sI', if_pos ⟨rfl, rfl⟩]
      · rw [hI_sI', if_pos ⟨rfl, rfl⟩]
      · rw [g 46 (by decide) (by decide), g 90 (by decide) (by decide)]
        exact fun i hi => t3 i (by omega)
    · unfold SS at ss ⊢
      rw [k84 0 (by decide), k84 6 (by decide), k84 11 (by decide), g 0 (by decide) (by decide), g 83 (by decide) (by decide), g 85 (by decide) (by decide)]
      exact ss
    · exact DR_eq (h := h) rfl (k84 51 (by decide)) (g 113 (by decide) (by decide)) (fun r hr => g r (by have : 114 ≤ r := (rw0.2.2.1 r hr).1; omega) (by have : 114 ≤ r := (rw0.2.2.1 r hr).1; omega)) dr
