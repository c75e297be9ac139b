/-! boat, ship, cast, move, tear -/
theorem all1 {P : Nat × Int32 → Prop} {q1 : Nat × Int32} (h1 : P q1) : ∀ q, q ∈ [q1] → P q := fun q hq => by
  rw [List.mem_singleton] at hq; subst hq; exact h1
theorem all2 {P : Nat × Int32 → Prop} {q1 q2 : Nat × Int32} (h1 : P q1) (h2 : P q2) : ∀ q, q ∈ [q1, q2] → P q := fun q hq => by
  rcases List.mem_cons.mp hq with e | e
  · subst e; exact h1
  · exact all1 h2 q e
theorem all3 {P : Nat × Int32 → Prop} {q1 q2 q3 : Nat × Int32} (h1 : P q1) (h2 : P q2) (h3 : P q3) : ∀ q, q ∈ [q1, q2, q3] → P q := fun q hq => by
  rcases List.mem_cons.mp hq with e | e
  · subst e; exact h1
  · exact all2 h2 h3 q e
theorem all4 {P : Nat × Int32 → Prop} {q1 q2 q3 q4 : Nat × Int32} (h1 : P q1) (h2 : P q2) (h3 : P q3) (h4 : P q4) : ∀ q, q ∈ [q1, q2, q3, q4] → P q := fun q hq => by
  rcases List.mem_cons.mp hq with e | e
  · subst e; exact h1
  · exact all3 h2 h3 h4 q e
theorem rfC_86 (h : Hp) (v : Int32) : hI (rfC h v) 86 = hI h 86 := by
  unfold rfC
  rw [hI_sI_ne (by decide), hI_sI_ne (by decide)]
theorem wi_n0 {v a b : Int32} (h : ¬ wi v a b = 0) : wi v a b = 1 := by
  rcases wi_or v a b with z | z
  · exact absurd z h
  · exact z
theorem Q_boat (n : Nat) (x1 x2 : Int32) (h : Hp) (hn : n < 512) (hi : Inv n h) : ∃ h2, q_boat x1 x2 h = some h2 ∧ Inv (n + 1) h2 := by
  obtain ⟨τ, hi⟩ := hi
  obtain ⟨k, hk, ek⟩ : ∃ k, k ≤ 6 ∧ hI h 86 185 = nI k := Rg_nat hi.1.2.1 (by decide) (by decide) (by decide)
  have ec : hI h 1 15 = nI k := (Inv_K hi (j := 185) (by decide) (show pl 185 = (0, 15) by decide)).trans ek
  unfold q_boat
  rw [C_boat ec hk]
  by_cases h1 : wi x1 1 1500 = 0
  · rw [if_pos h1, Option.bind_some, R_boat (k := k) (by rw [rfC_86]; exact ek) hk, if_pos h1, Option.bind_some, if_pos rfl]
    exact ⟨_, rfl, τ, refuse_ok hi (Or.inl rfl)⟩
  rw [if_neg h1]
  by_cases h2 : wi x2 0 99 = 0
  · rw [if_pos h2, Option.bind_some, R_boat (k := k) (by rw [rfC_86]; exact ek) hk, if_neg h1, if_pos h2, Option.bind_some, if_pos rfl]
    exact ⟨_, rfl, τ, refuse_ok hi (Or.inl rfl)⟩
  rw [if_neg h2]
  by_cases h3 : k < 6
  · rw [if_pos h3, Option.bind_some, R_boat (k := k) (by rw [hI_sI_ne (by decide), hI_sI_ne (by decide), hI_sI_ne (by decide), hI_sI_ne (by decide)]; exact ek) hk, if_neg h1, if_neg h2, if_pos h3, Option.bind_some, if_pos rfl]
    have el : updC [(91 + 2 * k, x1), (92 + 2 * k, x2), (185, nI (k + 1))] h = sI (sI (sI h 7 k x1) 8 k x2) 1 15 (nI (k + 1)) := by
      rw [updC_1 (pl_pace k h3), updC_1 (pl_bear k h3), updC_1 (show pl 185 = (0, 15) by decide)]
      rfl
    obtain ⟨u1, u2, u3⟩ := updC_e (l := [(91 + 2 * k, x1), (92 + 2 * k, x2), (185, nI (k + 1))]) (h := h) (all3 (by show 91 + 2 * k < 191; omega) (by show 92 + 2 * k < 191; omega) (by show 185 < 191; omega))
    have key : InvT τ (n + 1) (gdR (updR [(91 + 2 * k, x1), (92 + 2 * k, x2), (185, nI (k + 1))] (sI (updC [(91 + 2 * k, x1), (92 + 2 * k, x2), (185, nI (k + 1))] h) 0 12 0))) := by
      refine set_ok _ hi hn ?_ ?_ rfl (fun _ _ => ⟨rfl, rfl⟩) (CC_same hi.2.2.2.2.1 hi.2.2.2.2.2.1 ?_ u3 (fun a h1 _ _ => u1 a (ge50 h1)) u2 (Or.inr ⟨u1 69 (by decide), ?_⟩) (Or.inr ⟨u1 74 (by decide), ?_⟩))
      · exact all3 ⟨by show 91 + 2 * k < 191; omega, by show 91 + 2 * k ≠ 189; omega⟩ ⟨by show 92 + 2 * k < 191; omega, by show 92 + 2 * k ≠ 189; omega⟩ ⟨by show 185 < 191; omega, by show 185 ≠ 189; omega⟩
      · refine Rg_set (Rg_set (Rg_set hi.1.2.1 (by omega) ?_ (fun s h6 hs => absurd hs (by omega))) (by omega) ?_ (fun s h6 hs => absurd hs (by omega))) (by decide) ?_ (fun s h6 hs => absurd hs (by omega))
        · unfold inR; rw [rj_pace k h3]; exact wi_up (wi_n0 h1) (by decide) (by decide)
        · unfold inR; rw [rj_bear k h3]; exact wi_n0 h2
        · unfold inR; rw [show rj 185 = (0, nI 6) by decide]; exact wi_nI (by omega) (by decide)
      · exact all3 ⟨pF_no (by show 41 ≤ 91 + 2 * k; omega), by show 91 + 2 * k ≠ 190; omega⟩ ⟨pF_no (by show 41 ≤ 92 + 2 * k; omega), by show 92 + 2 * k ≠ 190; omega⟩ ⟨show pF 185 = false by decide, show 185 ≠ 190 by decide⟩
      · exact all3 (pS_no (by show 41 ≤ 91 + 2 * k; omega) (Or.inl (by show 91 + 2 * k < 103; omega)) (by show 91 + 2 * k ≠ 186; omega)) (pS_no (by show 41 ≤ 92 + 2 * k; omega) (Or.inl (by show 92 + 2 * k < 103; omega)) (by show 92 + 2 * k ≠ 186; omega)) (show pS 185 = false by decide)
      · exact all3 (pD_no (by show 41 ≤ 91 + 2 * k; omega) (Or.inl (by show 91 + 2 * k < 161; omega)) (by show 91 + 2 * k ≠ 188; omega)) (pD_no (by show 41 ≤ 92 + 2 * k; omega) (Or.inl (by show 92 + 2 * k < 161; omega)) (by show 92 + 2 * k ≠ 188; omega)) (show pD 185 = false by decide)
    rw [el] at key
    simp only [updR] at key
    exact ⟨_, rfl, τ, key⟩
  · rw [if_neg h3, Option.bind_some, R_boat (k := k) (by rw [rfC_86]; exact ek) hk, if_neg h1, if_neg h2, if_neg h3, Option.bind_some, if_pos rfl]
    exact ⟨_, rfl, τ, refuse_ok hi (Or.inr (Or.inr (Or.inl rfl)))⟩
theorem Rg_ship {K : Nat → Int32} {k : Nat} {x1 x2 x3 : Int32} (H : Rg K) (hk : k < 6) (ek : K 186 = nI k) (h1 : wi x1 0 1439 = 1) (h2 : wi x2 1 120 = 1) (h3 : wi x3 0 2000 = 1) : Rg (upd (upd (upd (upd K (103 + 3 * k) x1) (104 + 3 * k) x2) (105 + 3 * k) x3) 186 (nI (k + 1))) := by
  have G : Rg (upd (upd (upd K (103 + 3 * k) x1) (104 + 3 * k) x2) (105 + 3 * k) x3) := by
    refine Rg_set (Rg_set (Rg_set H (by omega) ?_ (fun s h6 hs => absurd hs (by omega))) (by omega) ?_ (fun s h6 hs => (wi_1.mp h2).1)) (by omega) ?_ (fun s h6 hs => absurd hs (by omega))
    · unfold inR; rw [rj_ready k hk]; exact h1
    · unfold inR; rw [rj_pass k hk]; exact wi_up h2 (by decide) (by decide)
    · unfold inR; rw [rj_limit k hk]; exact h3
  refine ⟨fun i hi => ?_, ?_, fun s hs hm => ?_⟩
  · by_cases hij : i = 186
    · subst hij
      rw [upd_eq]
      unfold inR
      rw [show rj 186 = (0, nI 6) by decide]
      exact wi_nI (by omega) (by decide)
    · rw [upd_ne hij]; exact G.1 i hi
  · rw [upd_ne (j := 190) (k := 186) (by decide), upd_ne (j := 189) (k := 186) (by decide)]; exact G.2.1
  · rw [upd_eq, nI_ltI (by omega) (by omega)] at hm
    rw [upd_ne (by omega)]
    by_cases hsk : s = k
    · subst hsk
      rw [upd_ne (by omega), upd_eq]
      exact (wi_1.mp h2).1
    · refine G.2.2 s hs ?_
      rw [upd_ne (by omega), upd_ne (by omega), upd_ne (by omega), ek, nI_ltI (by omega) (by omega)]
      omega
theorem Q_ship (n : Nat) (x1 x2 x3 : Int32) (h : Hp) (hn : n < 512) (hi : Inv n h) : ∃ h2, q_ship x1 x2 x3 h = some h2 ∧ Inv (n + 1) h2 := by
  obtain ⟨τ, hi⟩ := hi
  obtain ⟨k, hk, ek⟩ : ∃ k, k ≤ 6 ∧ hI h 86 186 = nI k := Rg_nat hi.1.2.1 (by decide) (by decide) (by decide)
  have ec : hI h 1 17 = nI k := (Inv_K hi (j := 186) (by decide) (show pl 186 = (0, 17) by decide)).trans ek
  unfold q_ship
  rw [C_ship ec hk]
  by_cases h1 : wi x1 0 1439 = 0
  · rw [if_pos h1, Option.bind_some, R_ship (k := k) (by rw [rfC_86]; exact ek) hk, if_pos h1, Option.bind_some, if_pos rfl]
    exact ⟨_, rfl, τ, refuse_ok hi (Or.inl rfl)⟩
  rw [if_neg h1]
  by_cases h2 : wi x2 1 120 = 0
  · rw [if_pos h2, Option.bind_some, R_ship (k := k) (by rw [rfC_86]; exact ek) hk, if_neg h1, if_pos h2, Option.bind_some, if_pos rfl]
    exact ⟨_, rfl, τ, refuse_ok hi (Or.inl rfl)⟩
  rw [if_neg h2]
  by_cases h3 : wi x3 0 2000 = 0
  · rw [if_pos h3, Option.bind_some, R_ship (k := k) (by rw [rfC_86]; exact ek) hk, if_neg h1, if_neg h2, if_pos h3, Option.bind_some, if_pos rfl]
    exact ⟨_, rfl, τ, refuse_ok hi (Or.inl rfl)⟩
  rw [if_neg h3]
  by_cases h4 : k < 6
  · rw [if_pos h4, Option.bind_some, R_ship (k := k) (by rw [hI_sI_ne (by decide), hI_sI_ne (by decide), hI_sI_ne (by decide), hI_sI_ne (by decide), hI_sI_ne (by decide), hI_sI_ne (by decide)]; exact ek) hk, if_neg h1, if_neg h2, if_neg h3, if_pos h4, Option.bind_some, if_pos rfl]
    have el : updC [(103 + 3 * k, x1), (104 + 3 * k, x2), (105 + 3 * k, x3), (186, nI (k + 1))] h = sI (sI (sI (sI h 10 k x1) 11 k x2) 12 k x3) 1 17 (nI (k + 1)) := by
      rw [updC_1 (pl_ready k h4), updC_1 (pl_pass k h4), updC_1 (pl_limit k h4), updC_1 (show pl 186 = (0, 17) by decide)]
      rfl
    obtain ⟨u1, u2, u3⟩ := updC_e (l := [(103 + 3 * k, x1), (104 + 3 * k, x2), (105 + 3 * k, x3), (186, nI (k + 1))]) (h := h) (all4 (by show 103 + 3 * k < 191; omega) (by show 104 + 3 * k < 191; omega) (by show 105 + 3 * k < 191; omega) (by show 186 < 191; omega))
    have key : InvT τ (n + 1) (gdR (updR [(103 + 3 * k, x1), (104 + 3 * k, x2), (105 + 3 * k, x3), (186, nI (k + 1))] (sI (sI (updC [(103 + 3 * k, x1), (104 + 3 * k, x2), (105 + 3 * k, x3), (186, nI (k + 1))] h) 69 8 0) 0 12 0))) := by
      refine set_ok _ hi hn ?_ ?_ rfl (fun a ha => ⟨hI_sI_ne (by omega), rfl⟩) (CC_same hi.2.2.2.2.1 hi.2.2.2.2.2.1 ?_ u3 (fun a h1 h2 _ => (hI_sI_ne h2).trans (u1 a (ge50 h1))) u2 (Or.inl (by rw [hI_sI', if_pos ⟨rfl, rfl⟩])) (Or.inr ⟨(hI_sI_ne (by decide)).trans (u1 74 (by decide)), ?_⟩))
      · exact all4 ⟨by show 103 + 3 * k < 191; omega, by show 103 + 3 * k ≠ 189; omega⟩ ⟨by show 104 + 3 * k < 191; omega, by show 104 + 3 * k ≠ 189; omega⟩ ⟨by show 105 + 3 * k < 191; omega, by show 105 + 3 * k ≠ 189; omega⟩ ⟨by show 186 < 191; omega, by show 186 ≠ 189; omega⟩
      · exact Rg_ship hi.1.2.1 h4 ek (wi_n0 h1) (wi_n0 h2) (wi_n0 h3)
      · exact all4 ⟨pF_no (by show 41 ≤ 103 + 3 * k; omega), by show 103 + 3 * k ≠ 190; omega⟩ ⟨pF_no (by show 41 ≤ 104 + 3 * k; omega), by show 104 + 3 * k ≠ 190; omega⟩ ⟨pF_no (by show 41 ≤ 105 + 3 * k; omega), by show 105 + 3 * k ≠ 190; omega⟩ ⟨show pF 186 = false by decide, show 186 ≠ 190 by decide⟩
      · exact all4 (pD_no (by show 41 ≤ 103 + 3 * k; omega) (Or.inl (by show 103 + 3 * k < 161; omega)) (by show 103 + 3 * k ≠ 188; omega)) (pD_no (by show 41 ≤ 104 + 3 * k; omega) (Or.inl (by show 104 + 3 * k < 161; omega)) (by show 104 + 3 * k ≠ 188; omega)) (pD_no (by show 41 ≤ 105 + 3 * k; omega) (Or.inl (by show 105 + 3 * k < 161; omega)) (by show 105 + 3 * k ≠ 188; omega)) (show pD 186 = false by decide)
    rw [el] at key
    simp only [updR] at key
    exact ⟨_, rfl, τ, key⟩
  · rw [if_neg h4, Option.bind_some, R_ship (k := k) (by rw [rfC_86]; exact ek) hk, if_neg h1, if_neg h2, if_neg h3, if_neg h4, Option.bind_some, if_pos rfl]
    exact ⟨_, rfl, τ, refuse_ok hi (Or.inr (Or.inr (Or.inl rfl)))⟩
theorem Q_cast (n : Nat) (x1 x2 : Int32) (h : Hp) (hn : n < 512) (hi : Inv n h) : ∃ h2, q_cast x1 x2 h = some h2 ∧ Inv (n + 1) h2 := by
  obtain ⟨τ, hi⟩ := hi
  obtain ⟨k, hk, ek⟩ : ∃ k, k ≤ 12 ∧ hI h 86 188 = nI k := Rg_nat hi.1.2.1 (by decide) (by decide) (by decide)
  have ec : hI h 1 18 = nI k := (Inv_K hi (j := 188) (by decide) (show pl 188 = (0, 18) by decide)).trans ek
  unfold q_cast
  rw [C_cast ec hk]
  by_cases h1 : wi x1 0 1439 = 0
  · rw [if_pos h1, Option.bind_some, R_cast (k := k) (by rw [rfC_86]; exact ek) hk, if_pos h1, Option.bind_some, if_pos rfl]
    exact ⟨_, rfl, τ, refuse_ok hi (Or.inl rfl)⟩
  rw [if_neg h1]
  by_cases h2 : wi x2 (-9999) 9999 = 0
  · rw [if_pos h2, Option.bind_some, R_cast (k := k) (by rw [rfC_86]; exact ek) hk, if_neg h1, if_pos h2, Option.bind_some, if_pos rfl]
    exact ⟨_, rfl, τ, refuse_ok hi (Or.inl rfl)⟩
  rw [if_neg h2]
  by_cases h3 : k < 12
  · rw [if_pos h3, Option.bind_some, R_cast (k := k) (by rw [hI_sI_ne (by decide), hI_sI_ne (by decide), hI_sI_ne (by decide), hI_sI_ne (by decide), hI_sI_ne (by decide)]; exact ek) hk, if_neg h1, if_neg h2, if_pos h3, Option.bind_some, if_pos rfl]
    have el : updC [(161 + 2 * k, x1), (162 + 2 * k, x2), (188, nI (k + 1))] h = sI (sI (sI h 13 k x1) 14 k x2) 1 18 (nI (k + 1)) := by
      rw [updC_1 (pl_fmin k h3), updC_1 (pl_flev k h3), updC_1 (show pl 188 = (0, 18) by decide)]
      rfl
    obtain ⟨u1, u2, u3⟩ := updC_e (l := [(161 + 2 * k, x1), (162 + 2 * k, x2), (188, nI (k + 1))]) (h := h) (all3 (by show 161 + 2 * k < 191; omega) (by show 162 + 2 * k < 191; omega) (by show 188 < 191; omega))
    have key : InvT τ (n + 1) (gdR (updR [(161 + 2 * k, x1), (162 + 2 * k, x2), (188, nI (k + 1))] (sI (sI (updC [(161 + 2 * k, x1), (162 + 2 * k, x2), (188, nI (k + 1))] h) 74 5 (-1)) 0 12 0))) := by
      refine set_ok _ hi hn ?_ ?_ rfl (fun a ha => ⟨hI_sI_ne (by omega), rfl⟩) (CC_same hi.2.2.2.2.1 hi.2.2.2.2.2.1 ?_ u3 (fun a h1 _ h2 => (hI_sI_ne h2).trans (u1 a (ge50 h1))) u2 (Or.inr ⟨(hI_sI_ne (by decide)).trans (u1 69 (by decide)), ?_⟩) (Or.inl (by rw [hI_sI', if_pos ⟨rfl, rfl⟩])))
      · exact all3 ⟨by show 161 + 2 * k < 191; omega, by show 161 + 2 * k ≠ 189; omega⟩ ⟨by show 162 + 2 * k < 191; omega, by show 162 + 2 * k ≠ 189; omega⟩ ⟨by show 188 < 191; omega, by show 188 ≠ 189; omega⟩
      · refine Rg_cnt (Rg_set (Rg_set hi.1.2.1 (by omega) ?_ (fun s h6 hs => absurd hs (by omega))) (by omega) ?_ (fun s h6 hs => absurd hs (by omega))) (Or.inr rfl) ?_
        · unfold inR; rw [rj_fmin k h3]; exact wi_n0 h1
        · unfold inR; rw [rj_flev k h3]; exact wi_n0 h2
        · unfold inR; rw [show rj 188 = (0, nI 12) by decide]; exact wi_nI (by omega) (by decide)
      · exact all3 ⟨pF_no (by show 41 ≤ 161 + 2 * k; omega), by show 161 + 2 * k ≠ 190; omega⟩ ⟨pF_no (by show 41 ≤ 162 + 2 * k; omega), by show 162 + 2 * k ≠ 190; omega⟩ ⟨show pF 188 = false by decide, show 188 ≠ 190 by decide⟩
      · exact all3 (pS_no (by show 41 ≤ 161 + 2 * k; omega) (Or.inr (by show 121 ≤ 161 + 2 * k; omega)) (by show 161 + 2 * k ≠ 186; omega)) (pS_no (by show 41 ≤ 162 + 2 * k; omega) (Or.inr (by show 121 ≤ 162 + 2 * k; omega)) (by show 162 + 2 * k ≠ 186; omega)) (show pS 188 = false by decide)
    rw [el] at key
    simp only [updR] at key
    exact ⟨_, rfl, τ, key⟩
  · rw [if_neg h3, Option.bind_some, R_cast (k := k) (by rw [rfC_86]; exact ek) hk, if_neg h1, if_neg h2, if_neg h3, Option.bind_some, if_pos rfl]
    exact ⟨_, rfl, τ, refuse_ok hi (Or.inr (Or.inr (Or.inl rfl)))⟩
theorem Q_move (n : Nat) (x1 : Int32) (h : Hp) (hn : n < 512) (hi : Inv n h) : ∃ h2, q_move x1 h = some h2 ∧ Inv (n + 1) h2 := by
  obtain ⟨τ, hi⟩ := hi
  obtain ⟨k, hk, ek⟩ : ∃ k, k ≤ 40 ∧ hI h 86 187 = nI k := Rg_nat hi.1.2.1 (by decide) (by decide) (by decide)
  have ec : hI h 1 16 = nI k := (Inv_K hi (j := 187) (by decide) (show pl 187 = (0, 16) by decide)).trans ek
  unfold q_move
  rw [C_move ec hk]
  by_cases h1 : wi x1 0 4 = 0
  · rw [if_pos h1, Option.bind_some, R_move (k := k) (by rw [rfC_86]; exact ek) hk, if_pos h1, Option.bind_some, if_pos rfl]
    exact ⟨_, rfl, τ, refuse_ok hi (Or.inl rfl)⟩
  rw [if_neg h1]
  by_cases h3 : k < 40
  · rw [if_pos h3, Option.bind_some, R_move (k := k) (by rw [hI_sI_ne (by decide), hI_sI_ne (by decide), hI_sI_ne (by decide)]; exact ek) hk, if_neg h1, if_pos h3, Option.bind_some, if_pos rfl]
    have el : updC [(121 + k, x1), (187, nI (k + 1))] h = sI (sI h 9 k x1) 1 16 (nI (k + 1)) := by
      rw [updC_1 (pl_plan k h3), updC_1 (show pl 187 = (0, 16) by decide)]
      rfl
    obtain ⟨u1, u2, u3⟩ := updC_e (l := [(121 + k, x1), (187, nI (k + 1))]) (h := h) (all2 (by show 121 + k < 191; omega) (by show 187 < 191; omega))
    have key : InvT τ (n + 1) (gdR (updR [(121 + k, x1), (187, nI (k + 1))] (sI (updC [(121 + k, x1), (187, nI (k + 1))] h) 0 12 0))) := by
      refine set_ok _ hi hn ?_ ?_ rfl (fun a ha => ⟨rfl, rfl⟩) (CC_same hi.2.2.2.2.1 hi.2.2.2.2.2.1 ?_ u3 (fun a h1 _ _ => u1 a (ge50 h1)) u2 (Or.inr ⟨u1 69 (by decide), ?_⟩) (Or.inr ⟨u1 74 (by decide), ?_⟩))
      · exact all2 ⟨by show 121 + k < 191; omega, by show 121 + k ≠ 189; omega⟩ ⟨by show 187 < 191; omega, by show 187 ≠ 189; omega⟩
      · refine Rg_cnt (Rg_set hi.1.2.1 (by omega) ?_ (fun s h6 hs => absurd hs (by omega))) (Or.inl rfl) ?_
        · unfold inR; rw [rj_plan k h3]; exact wi_n0 h1
        · unfold inR; rw [show rj 187 = (0, nI 40) by decide]; exact wi_nI (by omega) (by decide)
      · exact all2 ⟨pF_no (by show 41 ≤ 121 + k; omega), by show 121 + k ≠ 190; omega⟩ ⟨show pF 187 = false by decide, show 187 ≠ 190 by decide⟩
      · exact all2 (pS_no (by show 41 ≤ 121 + k; omega) (Or.inr (by show 121 ≤ 121 + k; omega)) (by show 121 + k ≠ 186; omega)) (show pS 187 = false by decide)
      · exact all2 (pD_no (by show 41 ≤ 121 + k; omega) (Or.inl (by show 121 + k < 161; omega)) (by show 121 + k ≠ 188; omega)) (show pD 187 = false by decide)
    rw [el] at key
    simp only [updR] at key
    exact ⟨_, rfl, τ, key⟩
  · rw [if_neg h3, Option.bind_some, R_move (k := k) (by rw [rfC_86]; exact ek) hk, if_neg h1, if_neg h3, Option.bind_some, if_pos rfl]
    exact ⟨_, rfl, τ, refuse_ok hi (Or.inr (Or.inr (Or.inl rfl)))⟩
