/-! the start: new objects -/
theorem h0_st : ∀ j, j < 191 → hI (toS hE) (1 + (pl j).1) (pl j).2 = hI (toS hE) 86 j := by decide +kernel
theorem h0_rg : ∀ j, j < 191 → wi (hI (toS hE) 86 j) (rj j).1 (rj j).2 = 1 := by decide +kernel
theorem h0_k : hI (toS hE) 86 190 < hI (toS hE) 86 189 ∧ hI (toS hE) 86 189 = 0 ∧ hI (toS hE) 86 186 = 0 := by decide +kernel
theorem h0_im : ∀ i, i < 2 → hI (toS hE) 44 i = hI (toS hE) 88 i ∧ hI (toS hE) 44 i = 0 := by decide +kernel
theorem h0_tp : hI (toS hE) 45 1 = 0 ∧ hI (toS hE) 84 10 = 0 := by decide +kernel
theorem h0_ss : hI (toS hE) 0 12 = hI (toS hE) 84 0 ∧ hI (toS hE) 0 13 = hI (toS hE) 84 6 ∧ hI (toS hE) 0 14 = hI (toS hE) 84 11 ∧ hI (toS hE) 83 0 = hI (toS hE) 85 1 ∧ hI (toS hE) 83 1 = hI (toS hE) 85 2 ∧ hI (toS hE) 83 2 = hI (toS hE) 85 5 ∧ hI (toS hE) 83 3 = hI (toS hE) 85 6 := by decide +kernel
theorem h0_rw : hR (toS hE) 50 6 = none ∧ hR (toS hE) 50 7 = none ∧ hR (toS hE) 50 8 = none ∧ hR (toS hE) 69 2 = none := by decide +kernel
theorem h0_lw : ∀ t, t < 6 → hR (toS hE) 6 t = none ∧ hR (toS hE) 21 t = none ∧ hR (toS hE) 35 t = none := by decide +kernel
theorem h0_cc : hI (toS hE) 50 9 = 0 ∧ hI (toS hE) 50 10 = 0 ∧ hI (toS hE) 50 11 = 0 ∧ hI (toS hE) 50 12 = -1 ∧ hI (toS hE) 50 13 = -1 ∧ hI (toS hE) 58 12 = 0 ∧ hI (toS hE) 69 8 = 0 ∧ hI (toS hE) 74 5 = -1 ∧ hI (toS hE) 78 4 = 0 := by decide +kernel
theorem h0_56 : ∀ n, n < 21 → hL (toS hE) 56 n = -1 := by decide +kernel
theorem h0_rc : hI (toS hE) 84 1 = 0 ∧ hI (toS hE) 84 28 = -1 ∧ hI (toS hE) 84 51 = 0 := by decide +kernel
theorem h0_wd : ∀ k, k < 68 → hI (toS hE) 89 k = wdL.getD k 0 := by decide +kernel
theorem H0_ok : Inv 0 (toS hE) := by
  obtain ⟨k1, k2, k3⟩ := h0_k
  obtain ⟨w6, w7, w8, w9⟩ := h0_rw
  obtain ⟨c9, c10, c11, c12, c13, c58, c69, c74, c78⟩ := h0_cc
  obtain ⟨v1, v28, v51⟩ := h0_rc
  refine ⟨fun _ _ _ _ _ _ _ _ _ _ => none, ⟨h0_st, ⟨h0_rg, k1, fun s hs hk => ?_⟩, fun t ht hk => ?_⟩, fun i hi => ⟨(h0_im i hi).1, Or.inl (h0_im i hi).2⟩, ⟨0, by decide, h0_tp.1, h0_tp.2, fun i hi => absurd hi (by omega)⟩, h0_ss, ⟨?_, ?_, ?_, ?_, ?_, ?_, fun j t r hj ht e => ?_⟩, CC_old (Or.inl c9) c10 c11 c12 c13 (fun n hn => h0_56 n (by omega)) c58 c69 c74 c78, ⟨0, Nat.le_refl _, v1, Or.inl v28, fun z => ?_⟩, Or.inl ⟨w8, v51⟩, ⟨Nat.zero_le _, Nat.zero_le _⟩, h0_wd⟩
  · rw [k3] at hk
    exact absurd hk (nI_pos (by omega))
  · rw [k2] at hk
    exact absurd hk (nI_pos (by omega))
  · rw [w6]; exact fun r e => by cases e
  · rw [w7]; exact fun r e => by cases e
  · rw [w8]; exact fun r e => by cases e
  · rw [w9]; exact fun r e => by cases e
  · rw [w6]; exact fun r e => by cases e
  · rw [w7]; exact fun r e => by cases e
  · obtain ⟨l1, l2, l3⟩ := h0_lw t ht
    rcases hj with rfl | rfl | rfl
    · rw [l1] at e; cases e
    · rw [l2] at e; cases e
    · rw [l3] at e; cases e
  · rw [v28, v1] at z
    exact absurd z (by decide)
theorem Hb_ok (n : Nat) (h : Hp) (hn : n ≤ 512) (hi : Inv n h) : hN h ≤ 599886 ∧ hS h ≤ 7302249 - 57410 := by
  obtain ⟨τ, -, -, -, -, -, -, -, -, ⟨r1, r2⟩, -⟩ := hi
  omega
theorem calls_all : calls_ok Inv := ⟨Q_sea, Q_moon, Q_terms, Q_feed, Q_end, Q_row, Q_foul, Q_law, Q_fault, Q_force, Q_level, Q_flow, Q_kind, Q_cell, Q_slack, Q_late, Q_boat, Q_soonest, Q_way, Q_calmest, Q_latest, Q_move, Q_tear, Q_done, Q_margin, Q_ship, Q_order, Q_begins, Q_taken, Q_most, Q_cast, Q_agree, Q_tells, Q_right, Q_mark, Q_lost, Q_day, Q_drawn, Q_image, Q_back, Q_count, Q_status⟩
