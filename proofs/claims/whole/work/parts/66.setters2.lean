/-! moon, terms, force, kind, boat, ship, cast, move, tear -/
theorem set_L {τ : Nat → Nat → TF} {n : Nat} {h : Hp} {j a b c : Nat} {v : Int32} (hi : InvT τ n h) (hn : n < 512) (hj : j < 189) (e : pl j = (a, b)) (hc : 1 + a = c) (rg : Rg (upd (hI h 86) j v)) : InvT τ (n + 1) (gdR (sI (sI (fgL (sI h c b v)) 0 12 0) 86 j v)) := by
  subst hc
  have ec : updC [(j, v)] h = sI h (1 + a) b v := updC_1 e []
  have fb := fgL_b (l := [(j, v)]) (h := h)
  have key : InvT τ (n + 1) (gdR (updR [(j, v)] (sI (fgL (updC [(j, v)] h)) 0 12 0))) := by
    refine set_ok [(j, v)] hi hn ?_ rg fb.1 fb.2 CC_fgL
    intro q hq
    rw [List.mem_singleton] at hq
    subst hq
    exact ⟨by show j < 191; omega, by show j ≠ 189; omega⟩
  rw [ec] at key
  simp only [updR] at key
  exact key
theorem set_F {τ : Nat → Nat → TF} {n : Nat} {h : Hp} {j a b c : Nat} {v : Int32} (hi : InvT τ n h) (hn : n < 512) (hj : j < 191) (hj2 : j ≠ 189) (h30 : 30 ≤ j) (e : pl j = (a, b)) (hc : 1 + a = c) (rg : Rg (upd (hI h 86) j v)) : InvT τ (n + 1) (gdR (sI (sI (fgF (sI h c b v)) 0 12 0) 86 j v)) := by
  subst hc
  have ec : updC [(j, v)] h = sI h (1 + a) b v := updC_1 e []
  have fb := fgF_b (l := [(j, v)]) (h := h)
  have ha : a < 14 := by have := pl_off j hj; rw [e] at this; exact this
  have key : InvT τ (n + 1) (gdR (updR [(j, v)] (sI (fgF (updC [(j, v)] h)) 0 12 0))) := by
    refine set_ok [(j, v)] hi hn ?_ rg fb.1 fb.2 (CC_fgF ?_)
    · intro q hq
      rw [List.mem_singleton] at hq
      subst hq
      exact ⟨hj, hj2⟩
    · refine C9_upd (K := hI h 86) ?_ (fun i hi => upd_ne (by omega))
      rw [ec]
      exact C9_node (hI_sI_ne (by omega)) (hI_sI_ne (by omega)) hi.2.2.2.2.2.1.1.1
  rw [ec] at key
  simp only [updR] at key
  exact key
theorem Q_moon (n : Nat) (x1 x2 x3 x4 : Int32) (h : Hp) (hn : n < 512) (hi : Inv n h) : ∃ h2, q_moon x1 x2 x3 x4 h = some h2 ∧ Inv (n + 1) h2 := by
  obtain ⟨τ, hi⟩ := hi
  unfold q_moon
  rcases C_moon x1 x2 x3 x4 h with ⟨hb, e⟩ | ⟨hb, e⟩
  · rw [e, Option.bind_some, (R_moon x1 x2 x3 x4 _).1 hb, Option.bind_some]
    obtain ⟨h1, h2, h3, h4⟩ := hb
    obtain ⟨k1, l1, rfl⟩ := wi_nat (b := 1) (by decide) h1
    obtain ⟨k2, l2, rfl⟩ := wi_nat (b := 3) (by decide) h2
    obtain ⟨k3, l3, rfl⟩ := wi_nat (b := 2) (by decide) h3
    have i1 : ix (nI k1) = k1 := nI_clamp (by omega)
    have i2 : ix (nI k2) = k2 := nI_clamp (by omega)
    have i3 : ix (nI k3) = k3 := nI_clamp (by omega)
    rw [i1, i2, i3]
    have ep : pl (6 + (12 * k1 + 3 * k2 + k3)) = (2, 12 * k1 + 3 * k2 + k3) := pl_moon _ (by omega)
    have key : InvT τ (n + 1) (gdR (sI (sI (fgL (sI h 3 (12 * k1 + 3 * k2 + k3) x4)) 0 12 0) 86 (6 + (12 * k1 + 3 * k2 + k3)) x4)) := by
      refine set_L hi hn (by omega) ep rfl (Rg_set hi.1.2.1 (by omega) ?_ (fun s h6 hs => absurd hs (by omega)))
      unfold inR
      rw [show 6 + (12 * k1 + 3 * k2 + k3) = 6 + 12 * k1 + 3 * k2 + k3 by omega, rj_moon k1 (by omega) k2 (by omega) k3 (by omega)]
      exact h4
    rw [if_pos]
    · exact ⟨_, rfl, τ, key⟩
    · show hI h 3 (12 * k1 + 3 * k2 + k3) = hI (sI (fgL (sI h 3 (12 * k1 + 3 * k2 + k3) x4)) 0 12 0) 86 (6 + (12 * k1 + 3 * k2 + k3))
      unfold fgL
      rw [hI_sI_ne (by decide), fgF_hI (by decide) (by decide) (by decide) (by decide) (by decide), hI_sI_ne (by decide), hI_sI_ne (by decide)]
      exact Inv_K hi (by omega) ep
  · rw [e, Option.bind_some, (R_moon x1 x2 x3 x4 _).2 hb, Option.bind_some, if_pos rfl]
    exact ⟨_, rfl, τ, refuse_ok hi (Or.inl rfl)⟩
theorem Q_terms (n : Nat) (x1 x2 : Int32) (h : Hp) (hn : n < 512) (hi : Inv n h) : ∃ h2, q_terms x1 x2 h = some h2 ∧ Inv (n + 1) h2 := by
  obtain ⟨τ, hi⟩ := hi
  unfold q_terms
  rw [C_terms]
  by_cases hb : wi x1 0 10 = 1 ∧ wi x2 (tmLo x1) (tmHi x1) = 1
  · rw [if_pos hb, Option.bind_some, R_terms, if_pos hb, Option.bind_some]
    obtain ⟨h1, h2⟩ := hb
    obtain ⟨k1, l1, rfl⟩ := wi_nat (b := 10) (by decide) h1
    have i1 : ix (nI k1) = k1 := nI_clamp (by omega)
    rw [i1]
    have ep : pl (30 + k1) = (3, k1) := pl_term _ (by omega)
    have key : InvT τ (n + 1) (gdR (sI (sI (fgF (sI h 4 k1 x2)) 0 12 0) 86 (30 + k1) x2)) := by
      refine set_F hi hn (by omega) (by omega) (by omega) ep rfl (Rg_set hi.1.2.1 (by omega) ?_ (fun s h6 hs => absurd hs (by omega)))
      unfold inR
      rw [rj_term k1 (by omega)]
      exact h2
    rw [if_pos]
    · exact ⟨_, rfl, τ, key⟩
    · show hI h 4 k1 = hI (sI (fgF (sI h 4 k1 x2)) 0 12 0) 86 (30 + k1)
      rw [hI_sI_ne (by decide), fgF_hI (by decide) (by decide) (by decide) (by decide) (by decide), hI_sI_ne (by decide)]
      exact Inv_K hi (by omega) ep
  · rw [if_neg hb, Option.bind_some, R_terms, if_neg hb, Option.bind_some, if_pos rfl]
    exact ⟨_, rfl, τ, refuse_ok hi (Or.inl rfl)⟩
theorem Rg_told {K : Nat → Int32} (H : Rg K) : ∃ k, k ≤ 6 ∧ K 189 = nI k := Rg_nat H (by decide) (by decide) (by decide)
theorem Q_force (n : Nat) (x1 : Int32) (h : Hp) (hn : n < 512) (hi : Inv n h) : ∃ h2, q_force x1 h = some h2 ∧ Inv (n + 1) h2 := by
  obtain ⟨τ, hi⟩ := hi
  obtain ⟨k, hk, ek⟩ := Rg_told hi.1.2.1
  have ec : hI h 1 13 = nI k := (Inv_K hi (j := 189) (by decide) (show pl 189 = (0, 13) by decide)).trans ek
  unfold q_force
  rw [C_force ec hk]
  by_cases hb : x1 = -1 ∨ wi x1 0 (nI k - 1) = 1
  · rw [if_pos hb, Option.bind_some, R_force (k := k) (by rw [hI_sI_ne (by decide), fgF_hI (by decide) (by decide) (by decide) (by decide) (by decide), hI_sI_ne (by decide)]; exact ek), if_pos hb, Option.bind_some]
    have key : InvT τ (n + 1) (gdR (sI (sI (fgF (sI h 1 14 x1)) 0 12 0) 86 190 x1)) := by
      refine set_F hi hn (by omega) (by omega) (by omega) (show pl 190 = (0, 14) by decide) rfl ?_
      have hx : -1 ≤ x1 ∧ x1 ≤ 5 ∧ x1 < nI k := by
        rcases hb with rfl | hb
        · exact ⟨by decide, by decide, by
            rw [Int32.lt_iff_toInt_lt, nI_toInt (by omega), show (-1 : Int32).toInt = -1 by decide]; omega⟩
        · obtain ⟨z1, z2⟩ := wi_1.mp hb
          rw [Int32.le_iff_toInt_le] at z1 z2
          rw [show (0 : Int32).toInt = 0 by decide] at z1
          have z3 : (nI k - 1).toInt = (k : Int) - 1 := by
            rcases (show k = 0 ∨ k = 1 ∨ k = 2 ∨ k = 3 ∨ k = 4 ∨ k = 5 ∨ k = 6 by omega) with rfl | rfl | rfl | rfl | rfl | rfl | rfl <;> decide
          rw [z3] at z2
          refine ⟨?_, ?_, ?_⟩
          · rw [Int32.le_iff_toInt_le, show (-1 : Int32).toInt = -1 by decide]; omega
          · rw [Int32.le_iff_toInt_le, show (5 : Int32).toInt = 5 by decide]; omega
          · rw [Int32.lt_iff_toInt_lt, nI_toInt (by omega)]; omega
      refine ⟨fun i hi2 => ?_, ?_, fun s hs hm => ?_⟩
      · by_cases hij : i = 190
        · subst hij
          rw [upd_eq]
          unfold inR
          rw [show rj 190 = (-1, 5) by decide]
          exact wi_1.mpr ⟨hx.1, hx.2.1⟩
        · rw [upd_ne hij]; exact hi.1.2.1.1 i hi2
      · rw [upd_eq, upd_ne (by decide), ek]
        exact hx.2.2
      · rw [upd_ne (by decide)] at hm
        rw [upd_ne (by omega)]
        exact hi.1.2.1.2.2 s hs hm
    rw [if_pos]
    · exact ⟨_, rfl, τ, key⟩
    · show hI h 1 14 = hI (sI (fgF (sI h 1 14 x1)) 0 12 0) 86 190
      rw [hI_sI_ne (by decide), fgF_hI (by decide) (by decide) (by decide) (by decide) (by decide), hI_sI_ne (by decide)]
      exact Inv_K hi (j := 190) (by decide) (show pl 190 = (0, 14) by decide)
  · rw [if_neg hb, Option.bind_some, R_force (k := k) (by unfold rfC; rw [hI_sI_ne (by decide), hI_sI_ne (by decide)]; exact ek), if_neg hb, Option.bind_some, if_pos rfl]
    exact ⟨_, rfl, τ, refuse_ok hi (Or.inr (Or.inl rfl))⟩
/-- a change that leaves what is worked out, but, it may be, of ships or floats -/
theorem CC_same {τ : Nat → TF} {K : Nat → Int32} {l : List (Nat × Int32)} {h B : Hp} (rw0 : RW h) (H : CC (tin τ K) K h) (hl : ∀ q, q ∈ l → pF q.1 = false ∧ q.1 ≠ 190) (b1 : B.2.2 = h.2.2) (e : ∀ a, (50 ≤ a ∧ a ≤ 82) ∨ NS ≤ a → a ≠ 69 → a ≠ 74 → hI B a = hI h a) (l56 : hL B = hL h)
    (h69 : hI B 69 8 = 0 ∨ (hI B 69 = hI h 69 ∧ ∀ q, q ∈ l → pS q.1 = false)) (h74 : hI B 74 5 = -1 ∨ (hI B 74 = hI h 74 ∧ ∀ q, q ∈ l → pD q.1 = false)) : CC (tin τ (updK l K)) (updK l K) B := by
  have et : tin τ (updK l K) = tin τ K := by
    unfold tin
    rw [updK_ne l K 190 (fun q hq => (hl q hq).2)]
  have eF : mk pF (updK l K) = mk pF K := mk_updK l K (fun q hq => (hl q hq).1)
  have hr := hR_of b1
  rw [et]
  refine ⟨?_, ?_, ?_⟩
  · rw [eF]
    exact CF_eq (e 50 (Or.inl ⟨by decide, by decide⟩) (by decide) (by decide)) (e 54 (Or.inl ⟨by decide, by decide⟩) (by decide) (by decide)) (e 57 (Or.inl ⟨by decide, by decide⟩) (by decide) (by decide)) (e 58 (Or.inl ⟨by decide, by decide⟩) (by decide) (by decide)) (e 59 (Or.inl ⟨by decide, by decide⟩) (by decide) (by decide)) (e 60 (Or.inl ⟨by decide, by decide⟩) (by decide) (by decide)) (e 78 (Or.inl ⟨by decide, by decide⟩) (by decide) (by decide)) (e 79 (Or.inl ⟨by decide, by decide⟩) (by decide) (by decide)) (by rw [l56]) (by rw [hr]) (by rw [hr]) (fun r z => e r (Or.inr (rw0.1 r z).1) (by have : 114 ≤ r := (rw0.1 r z).1; omega) (by have : 114 ≤ r := (rw0.1 r z).1; omega)) (fun r z => e r (Or.inr (rw0.2.1 r z).1) (by have : 114 ≤ r := (rw0.2.1 r z).1; omega) (by have : 114 ≤ r := (rw0.2.1 r z).1; omega)) H.1
  · rcases h69 with z | ⟨z1, z2⟩
    · exact Or.inl z
    · exact C69_eq z1 (e 72 (Or.inl ⟨by decide, by decide⟩) (by decide) (by decide)) (e 73 (Or.inl ⟨by decide, by decide⟩) (by decide) (by decide)) eF (mk_updK l K z2) H.2.1
  · rcases h74 with z | ⟨z1, z2⟩
    · exact Or.inl z
    · exact C74_eq z1 (e 77 (Or.inl ⟨by decide, by decide⟩) (by decide) (by decide)) (mk_updK l K z2) H.2.2
theorem ge50 {a : Nat} (h : (50 ≤ a ∧ a ≤ 82) ∨ NS ≤ a) : 50 ≤ a := by
  rcases h with h | h
  · exact h.1
  · have : 114 ≤ a := h
    omega
theorem pF_no {j : Nat} (hj : 41 ≤ j) : pF j = false := decide_eq_false (by omega)
theorem pS_no {j : Nat} (hj : 41 ≤ j) (h2 : j < 103 ∨ 121 ≤ j) (h3 : j ≠ 186) : pS j = false := by
  unfold pS
  rw [decide_eq_false (p := j < 41) (by omega), decide_eq_false (p := j = 186) h3]
  rcases h2 with h2 | h2
  · rw [decide_eq_false (p := 103 ≤ j) (by omega)]; rfl
  · rw [decide_eq_false (p := j < 121) (by omega), Bool.and_false]; rfl
theorem pD_no {j : Nat} (hj : 41 ≤ j) (h2 : j < 161 ∨ 185 ≤ j) (h3 : j ≠ 188) : pD j = false := by
  unfold pD
  rw [decide_eq_false (p := j < 41) (by omega), decide_eq_false (p := j = 188) h3]
  rcases h2 with h2 | h2
  · rw [decide_eq_false (p := 161 ≤ j) (by omega)]; rfl
  · rw [decide_eq_false (p := j < 185) (by omega), Bool.and_false]; rfl
theorem updC_e {l : List (Nat × Int32)} {h : Hp} (hl : ∀ q, q ∈ l → q.1 < 191) : (∀ a, 50 ≤ a → hI (updC l h) a = hI h a) ∧ hL (updC l h) = hL h ∧ (updC l h).2.2 = h.2.2 := by
  obtain ⟨e1, e2⟩ := updC_fr l h hl
  exact ⟨fun a ha => e2 a (by omega), by unfold hL; rw [e1], by rw [e1]⟩
theorem Q_kind (n : Nat) (x1 x2 : Int32) (h : Hp) (hn : n < 512) (hi : Inv n h) : ∃ h2, q_kind x1 x2 h = some h2 ∧ Inv (n + 1) h2 := by
  obtain ⟨τ, hi⟩ := hi
  unfold q_kind
  rw [C_kind]
  by_cases h1 : wi x1 0 49 = 0
  · rw [if_pos h1, Option.bind_some, R_kind, if_pos h1, Option.bind_some, if_pos rfl]
    exact ⟨_, rfl, τ, refuse_ok hi (Or.inl rfl)⟩
  · rw [if_neg h1]
    by_cases h2 : wi x2 0 5 = 0
    · rw [if_pos h2, Option.bind_some, R_kind, if_neg h1, if_pos h2, Option.bind_some, if_pos rfl]
      exact ⟨_, rfl, τ, refuse_ok hi (Or.inl rfl)⟩
    · rw [if_neg h2, Option.bind_some, R_kind, if_neg h1, if_neg h2, Option.bind_some]
      obtain ⟨k1, e1⟩ := wi_ix (b := 49) (by decide) h1
      have ep : pl (41 + ix x1) = (4, ix x1) := pl_kind _ (by omega)
      have ec : updC [(41 + ix x1, x2)] h = sI h 5 (ix x1) x2 := updC_1 ep []
      have hl : ∀ q, q ∈ [(41 + ix x1, x2)] → q = (41 + ix x1, x2) := fun q hq => List.mem_singleton.mp hq
      obtain ⟨u1, u2, u3⟩ := updC_e (l := [(41 + ix x1, x2)]) (h := h) (fun q hq => by rw [hl q hq]; show 41 + ix x1 < 191; omega)
      have key : InvT τ (n + 1) (gdR (updR [(41 + ix x1, x2)] (sI (updC [(41 + ix x1, x2)] h) 0 12 0))) := by
        refine set_ok [(41 + ix x1, x2)] hi hn (fun q hq => ?_) ?_ rfl (fun _ _ => ⟨rfl, rfl⟩) (CC_same hi.2.2.2.2.1 hi.2.2.2.2.2.1 (fun q hq => ?_) u3 (fun a h1 _ _ => u1 a (ge50 h1)) u2 (Or.inr ⟨u1 69 (by decide), fun q hq => ?_⟩) (Or.inr ⟨u1 74 (by decide), fun q hq => ?_⟩))
        · rw [hl q hq]; exact ⟨by show 41 + ix x1 < 191; omega, by show 41 + ix x1 ≠ 189; omega⟩
        · refine Rg_set hi.1.2.1 (by omega) ?_ (fun s h6 hs => absurd hs (by omega))
          unfold inR
          rw [rj_kind _ (by omega)]
          rcases wi_or x2 0 5 with z | z
          · exact absurd z h2
          · exact z
        · rw [hl q hq]; exact ⟨pF_no (by show 41 ≤ 41 + ix x1; omega), by show 41 + ix x1 ≠ 190; omega⟩
        · rw [hl q hq]; exact pS_no (by show 41 ≤ 41 + ix x1; omega) (Or.inl (by show 41 + ix x1 < 103; omega)) (by show 41 + ix x1 ≠ 186; omega)
        · rw [hl q hq]; exact pD_no (by show 41 ≤ 41 + ix x1; omega) (Or.inl (by show 41 + ix x1 < 161; omega)) (by show 41 + ix x1 ≠ 188; omega)
      rw [ec] at key
      simp only [updR] at key
      rw [if_pos]
      · exact ⟨_, rfl, τ, key⟩
      · show hI h 5 (ix x1) = hI (sI (sI h 5 (ix x1) x2) 0 12 0) 86 (41 + ix x1)
        rw [hI_sI_ne (by decide), hI_sI_ne (by decide)]
        exact Inv_K hi (by omega) ep
