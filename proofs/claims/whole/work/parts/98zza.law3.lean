/-! the law: granted, refused -/
theorem sLw_ns (j : Nat) (hj : NS ≤ j) : sLw j = false := by
  have : 114 ≤ j := hj
  exact sLw_no (by omega)
theorem law_no {τ : Nat → Nat → TF} {n : Nat} {h h2 : Hp} {v : Int32} (hi : InvT τ n h) (hv : v = -5 ∨ v = -6) (E : eqO sLw h h2) (e1 : hI h2 1 = hI h 1) (e86 : hI h2 86 = hI h 86) (e45 : hI h2 45 1 = 0) (e10 : hI h2 84 10 = 0) (x12 : hI h2 0 12 = v) (y0 : hI h2 84 0 = v) (x13 : hI h2 0 13 = hI h 0 13) (y6 : hI h2 84 6 = hI h 84 6) (x14 : hI h2 0 14 = hI h2 84 11) (m : ∀ k, k = 1 ∨ k = 28 ∨ k = 51 → hI h2 84 k = hI h 84 k) (c83 : ∀ q, hI h2 83 q = if q = rfI v then hI h 83 q + 1 else hI h 83 q) (c85 : ∀ q, hI h2 85 q = if q = ix (-v) then hI h 85 q + 1 else hI h 85 q) : InvT (fun i => if i = 0 then τ 0 else τ i) (n + 1) h2 := by
  have hi0 := hi
  obtain ⟨sm, im, tp, ss, rw0, cc, rc, dr, rm, wd⟩ := hi0
  have F : Fnw h h2 := ⟨fun r hr _ => ⟨kd_of E.1 r, by rw [hR_of E.1], (E.2 r (sLw_ns r hr)).1, (E.2 r (sLw_ns r hr)).2⟩, by rw [hN_of E.1]; exact Nat.le_refl _⟩
  refine law_ok hi (fun j _ hj => E.2 j hj) (fun j _ _ => by rw [hR_of E.1]) F ⟨by rw [hN_of E.1]; omega, by rw [hS_of E.1]; omega⟩ ⟨?_, by rw [e86]; exact sm.2.1, fun t ht hk => ?_⟩ (by rw [e86]) (fun j _ => by rw [e86]) (fun t r ht e => ?_) e45 e10 (m 51 (by decide)) ?_ ?_
  · rw [e86]
    refine StP_fr sm.1 (fun d hd => ?_)
    by_cases z : d = 0
    · rw [z]; exact e1
    · exact (E.2 (1 + d) (sLw_no (by omega))).1
  · rw [e86] at hk ⊢
    obtain ⟨r, a1, a2, a3⟩ := sm.2.2 t ht hk
    exact ⟨r, by rw [hR_of E.1]; exact a1, ClsT_N F a2, a3⟩
  · rw [hR_of E.1] at e
    obtain ⟨x1, x2⟩ := rw0.2.2.2.2.2.2 6 t r (Or.inl rfl) ht e
    exact ⟨x1, nd_N F x1 x2⟩
  · obtain ⟨s1, s2, s3, s4, s5, s6, s7⟩ := ss
    unfold SS
    rw [x12, y0, x13, y6, x14, c83, c83, c83, c83, c85, c85, c85, c85]
    refine ⟨rfl, s2, rfl, ?_⟩
    rcases hv with rfl | rfl
    · rw [show rfI (-5) = 2 by decide, show ix (-(-5)) = 5 by decide]
      exact ⟨s4, s5, by rw [if_pos rfl, if_pos rfl, s6], s7⟩
    · rw [show rfI (-6) = 3 by decide, show ix (-(-6)) = 6 by decide]
      exact ⟨s4, s5, s6, by rw [if_pos rfl, if_pos rfl, s7]⟩
  · rw [e86]
    exact RC_eq rc (m 1 (by decide)) (m 28 (by decide)) (E.2 97 (by decide)).1 (E.2 99 (by decide)).1
theorem pl_189 : ∀ j, j < 191 → j ≠ 189 → (pl j).1 = 0 → (pl j).2 ≠ 13 := by decide +kernel
theorem law_yes {τ : Nat → Nat → TF} {n t0 N M s n0 : Nat} {h h2 : Hp} {y : Nat → Nat} {cls : Nat → Nat × ((Nat → Int32) → Option Int32)} {kk : Nat → Nat} (hi : InvT τ n h) (hn : n < 512) (ht : t0 < 6) (e189 : hI h 86 189 = nI t0) (f1 : ∀ j, j < NS → sLw j = false → hI h2 j = hI h j ∧ hL h2 j = hL h j) (f2 : ∀ j, j < NS → j ≠ 6 → hR h2 j = hR h j) (f3 : Fnw h h2) (f4 : hN h2 ≤ hN h + 3 ∧ hS h2 ≤ hS h + 8640)
    (x1 : ∀ q, hI h2 1 q = if q = 13 then nI (t0 + 1) else hI h 1 q) (x6 : ∀ t, hR h2 6 t = if t = t0 then some (nid h) else hR h 6 t) (k189 : hI h2 86 189 = nI (t0 + 1)) (kN : hI h2 86 (192 + t0) = nI N) (kT : ∀ i, i < N → hI h2 86 (198 + 400 * t0 + i) = nI (tC y n0 i) ∧ hI h2 86 (2598 + 400 * t0 + i) = nI (tV y n0 i)) (kO : ∀ j, j ≠ 189 → j ≠ 192 + t0 → ¬ (198 + 400 * t0 ≤ j ∧ j < 598 + 400 * t0) → ¬ (2598 + 400 * t0 ≤ j ∧ j < 2998 + 400 * t0) → hI h2 86 j = hI h 86 j)
    (e45 : hI h2 45 1 = 0) (e10 : hI h2 84 10 = 0) (e51 : hI h2 84 51 = hI h 84 51) (ss' : SS h2) (v1 : hI h2 84 1 = hI h 84 1 + 1) (v28 : hI h2 84 28 = hI h 84 28)
    (M12 : M ≤ 12) (s4 : s ≤ 400) (k0 : kk 0 = 0) (kM : kk M = N + 1) (CL : ∀ i, i < M → CLF y n0 N (hI h2 (nid h + 1)) (hI h2 (nid h + 2)) s cls kk i) (n1 : nd h2 (nid h) 101 2) (r0 : rf h2 (nid h) 0 = some (nid h + 1)) (r1 : rf h2 (nid h) 1 = some (nid h + 2)) (n2 : nd h2 (nid h + 1) 0 s) (n3 : nd h2 (nid h + 2) 0 (4 * M)) (N4 : N ≤ 400) (c0 : tC y n0 N = 0) (cb : ∀ i, tC y n0 i < 1000) : Inv (n + 1) h2 := by
  have hi0 := hi
  obtain ⟨sm, im, tp, ss, rw0, cc, rc, dr, rm, wd⟩ := hi0
  have n114 : 114 ≤ nid h := ns_nid h
  have e190 : hI h2 86 190 = hI h 86 190 := kO 190 (by omega) (by omega) (by omega) (by omega)
  have lt190 : hI h 86 190 < nI t0 := by rw [← e189]; exact sm.2.1.2.1
  refine ⟨_, law_ok (τ' := fun t => if t = t0 then TLw cls M else τ 0 t) hi f1 f2 f3 f4 ⟨fun j hj => ?_, ⟨fun j hj => ?_, ?_, fun s hs hk => ?_⟩, fun t h6 hk => ?_⟩ ?_ (fun j hj => kO j (by omega) (by omega) (by omega) (by omega)) (fun t r h6 e => ?_) e45 e10 e51 ss' (RC_bump rc hn v1 v28)⟩
  · by_cases z : j = 189
    · rw [z, show pl 189 = (0, 13) by decide, k189]
      show hI h2 1 13 = _
      rw [x1, if_pos rfl]
    · rw [kO j z (by omega) (by omega) (by omega), ← sm.1 j hj]
      have po := pl_off j hj
      by_cases w : (pl j).1 = 0
      · have := pl_189 j hj z w
        rw [w]
        show hI h2 1 _ = hI h 1 _
        rw [x1, if_neg this]
      · rw [(f1 (1 + (pl j).1) (by show 1 + (pl j).1 < 114; omega) (sLw_no (by omega))).1]
  · by_cases z : j = 189
    · rw [z, k189]
      unfold inR
      rw [show rj 189 = (0, nI 6) by decide]
      exact wi_nI (by omega) (by decide)
    · rw [kO j z (by omega) (by omega) (by omega)]
      exact sm.2.1.1 j hj
  · rw [e190, k189]
    exact Int32.lt_trans lt190 (nI_lt (by omega) (by omega))
  · rw [kO 186 (by omega) (by omega) (by omega) (by omega)] at hk
    rw [kO _ (by omega) (by omega) (by omega) (by omega)]
    exact sm.2.1.2.2 s hs hk
  · rw [k189, nI_ltI (by omega) (by omega)] at hk
    show ∃ r, hR h2 6 t = some r ∧ ClsT h2 r (if t = t0 then TLw cls M else τ 0 t) ∧ RefT (hI h2 86) t (if t = t0 then TLw cls M else τ 0 t)
    by_cases z : t = t0
    · rw [if_pos z, x6, if_pos z]
      refine ⟨nid h, rfl, ⟨n1, ns_nid h, nid h + 1, nid h + 2, s, 4 * M, r0, r1, by show 114 ≤ nid h + 1; omega, by show 114 ≤ nid h + 2; omega, n2, n3, s4, by omega, CT_law CL M12 s4⟩, ?_⟩
      rw [z]
      exact RefT_law CL k0 kM ht N4 c0 cb kN kT
    · rw [if_neg z, x6, if_neg z]
      obtain ⟨r, a1, a2, a3⟩ := sm.2.2 t h6 (by rw [e189, nI_ltI (by omega) (by omega)]; omega)
      refine ⟨r, a1, ClsT_N f3 a2, RefT_eq a3 ⟨kO _ (by omega) (by omega) (by omega) (by omega), fun i hi2 => ⟨kO _ (by omega) (by omega) (by omega) (by omega), kO _ (by omega) (by omega) (by omega) (by omega)⟩⟩⟩
  · unfold tin
    rw [e190]
    by_cases z : hI h 86 190 < 0
    · rw [if_pos z, if_pos z]
    · rw [if_neg z, if_neg z]
      obtain ⟨q, q1, q2⟩ := nI_of z
      rw [q2, nI_ltI q1 (by omega)] at lt190
      rw [q2, show ix (nI q) = q from nI_clamp q1]
      exact if_neg (by omega)
  · rw [x6] at e
    by_cases z : t = t0
    · rw [if_pos z] at e
      cases e
      exact ⟨ns_nid h, n1⟩
    · rw [if_neg z] at e
      obtain ⟨y1, y2⟩ := rw0.2.2.2.2.2.2 6 t r (Or.inl rfl) h6 e
      exact ⟨y1, nd_N f3 y1 y2⟩
