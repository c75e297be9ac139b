/-! sea, moon, terms, force, kind, boat, ship, cast, move, tear -/
theorem hI_wL (h : Hp) (j : Nat) (f : Nat → Int64) : hI (wL h j f) = hI h := rfl
theorem hL_wI (h : Hp) (j : Nat) (f : Nat → Int32) : hL (wI h j f) = hL h := rfl
theorem fgF_hI {h : Hp} {a : Nat} (h1 : a ≠ 50) (h2 : a ≠ 58) (h3 : a ≠ 69) (h4 : a ≠ 74) (h5 : a ≠ 78) : hI (fgF h) a = hI h a := by
  unfold fgF fgW
  rw [hI_sI_ne h5, hI_sI_ne h4, hI_sI_ne h3, hI_sI_ne h2, hI_wL, hI_sI_ne h1, hI_sI_ne h1, hI_sI_ne h1, hI_sI_ne h1]
theorem fgF_hL {h : Hp} {a : Nat} (h1 : a ≠ 56) : hL (fgF h) a = hL h a := by
  unfold fgF fgW
  rw [hL_sI, hL_sI, hL_sI, hL_sI, hL_wL_ne h1, hL_sI, hL_sI, hL_sI, hL_sI]
theorem CC_fgF {T : TF} {K : Nat → Int32} {h : Hp} (c9 : C9 (mk pF K) h) : CC T K (fgF h) := by
  refine CC_old ?_ ?_ ?_ ?_ ?_ ?_ ?_ ?_ ?_ ?_
  · unfold C9 TdOK
    rw [fgF_hI (a := 54) (by decide) (by decide) (by decide) (by decide) (by decide)]
    have : hI (fgF h) 50 9 = hI h 50 9 := by simp [fgF, fgW, hI_sI', hI_wL]
    rw [this]
    exact c9
  · simp [fgF, fgW, hI_sI', hI_wL]
  · simp [fgF, fgW, hI_sI', hI_wL]
  · simp [fgF, fgW, hI_sI', hI_wL]
  · simp [fgF, fgW, hI_sI', hI_wL]
  · intro n hn
    unfold fgF fgW
    rw [hL_sI, hL_sI, hL_sI, hL_sI, hL_wL, if_pos (by omega)]
  · simp [fgF, fgW, hI_sI', hI_wL]
  · simp [fgF, fgW, hI_sI', hI_wL]
  · simp [fgF, fgW, hI_sI', hI_wL]
  · simp [fgF, fgW, hI_sI', hI_wL]
theorem CC_fgL {T : TF} {K : Nat → Int32} {h : Hp} : CC T K (fgL h) := CC_fgF (Or.inl (by rw [hI_sI', if_pos ⟨rfl, rfl⟩]))
theorem C9_upd {K K2 : Nat → Int32} {h : Hp} (H : C9 (mk pF K) h) (e : ∀ j, j < 30 → K2 j = K j) : C9 (mk pF K2) h := by
  rcases H with H | ⟨h1, h2⟩
  · exact Or.inl H
  · refine Or.inr ⟨h1, fun a m ha hm => ?_⟩
    rw [h2 a m ha hm]
    exact (td_congr (fun j hj => by rw [mk_at (by unfold pF; exact decide_eq_true (by omega)), mk_at (by unfold pF; exact decide_eq_true (by omega)), e j hj]) ha (nI m) 4 (by decide)).symm
theorem C9_node {K : Nat → Int32} {h h2 : Hp} (e50 : hI h2 50 = hI h 50) (e54 : hI h2 54 = hI h 54) (H : C9 K h) : C9 K h2 := by
  unfold C9 TdOK
  rw [e50, e54]
  exact H
theorem fgF_b {l : List (Nat × Int32)} {h : Hp} : (fgF (updC l h)).2.2 = (updC l h).2.2 ∧ ∀ a, a < 50 ∨ 82 < a → hI (fgF (updC l h)) a = hI (updC l h) a ∧ hL (fgF (updC l h)) a = hL (updC l h) a :=
  ⟨rfl, fun a ha => ⟨fgF_hI (by omega) (by omega) (by omega) (by omega) (by omega), fgF_hL (by omega)⟩⟩
theorem fgL_b {l : List (Nat × Int32)} {h : Hp} : (fgL (updC l h)).2.2 = (updC l h).2.2 ∧ ∀ a, a < 50 ∨ 82 < a → hI (fgL (updC l h)) a = hI (updC l h) a ∧ hL (fgL (updC l h)) a = hL (updC l h) a :=
  ⟨rfl, fun a ha => ⟨by unfold fgL; rw [fgF_hI (by omega) (by omega) (by omega) (by omega) (by omega), hI_sI_ne (by omega)], by unfold fgL; rw [fgF_hL (by omega), hL_sI]⟩⟩
theorem updC_1 {j a b : Nat} {v : Int32} {h : Hp} (e : pl j = (a, b)) (l : List (Nat × Int32)) : updC ((j, v) :: l) h = updC l (sI h (1 + a) b v) := by
  show updC l (sI h (1 + (pl j).1) (pl j).2 v) = _
  rw [e]
theorem wi_nI {a b : Nat} (h : a ≤ b) (hb : b < 2 ^ 31) : wi (nI a) 0 (nI b) = 1 := wi_1.mpr ⟨nI_le (a := 0) (Nat.zero_le _) (by omega), nI_le h hb⟩
theorem Inv_K {τ : Nat → Nat → TF} {n : Nat} {h : Hp} (hi : InvT τ n h) {j a b : Nat} (hj : j < 191) (e : pl j = (a, b)) : hI h (1 + a) b = hI h 86 j := StP_at hi.1.1 hj e
theorem Q_sea (n : Nat) (x1 x2 x3 : Int32) (h : Hp) (hn : n < 512) (hi : Inv n h) : ∃ h2, q_sea x1 x2 x3 h = some h2 ∧ Inv (n + 1) h2 := by
  obtain ⟨τ, hi⟩ := hi
  unfold q_sea
  rw [C_sea]
  by_cases hb : wi x1 0 1 = 1 ∧ wi x2 0 2 = 1 ∧ wi x3 (seaLo x2) (seaHi x2) = 1
  · rw [if_pos hb, Option.bind_some, R_sea, if_pos hb, Option.bind_some]
    obtain ⟨h1, h2, h3⟩ := hb
    obtain ⟨k1, l1, rfl⟩ := wi_nat (b := 1) (by decide) h1
    obtain ⟨k2, l2, rfl⟩ := wi_nat (b := 2) (by decide) h2
    have i1 : ix (nI k1) = k1 := nI_clamp (by omega)
    have i2 : ix (nI k2) = k2 := nI_clamp (by omega)
    rw [i1, i2]
    have hl : 3 * k1 + k2 < 6 := by omega
    have e : pl (3 * k1 + k2) = (1, 3 * k1 + k2) := pl_sea _ hl
    have ec : updC [(3 * k1 + k2, x3)] h = sI h 2 (3 * k1 + k2) x3 := updC_1 e []
    have fb := fgL_b (l := [(3 * k1 + k2, x3)]) (h := h)
    have key : InvT τ (n + 1) (gdR (updR [(3 * k1 + k2, x3)] (sI (fgL (updC [(3 * k1 + k2, x3)] h)) 0 12 0))) := by
      refine set_ok [(3 * k1 + k2, x3)] hi hn ?_ ?_ fb.1 fb.2 CC_fgL
      · intro q hq
        rw [List.mem_singleton] at hq
        subst hq
        exact ⟨by show 3 * k1 + k2 < 191; omega, by show 3 * k1 + k2 ≠ 189; omega⟩
      · refine Rg_set hi.1.2.1 (by omega) ?_ (fun s h6 hs => absurd hs (by omega))
        unfold inR
        rw [rj_sea k1 (by omega) k2 (by omega)]
        exact h3
    rw [ec] at key
    simp only [updR] at key
    rw [if_pos]
    · exact ⟨_, rfl, τ, key⟩
    · show hI h 2 (3 * k1 + k2) = hI (sI (fgL (sI h 2 (3 * k1 + k2) x3)) 0 12 0) 86 (3 * k1 + k2)
      unfold fgL
      rw [hI_sI_ne (by decide), fgF_hI (by decide) (by decide) (by decide) (by decide) (by decide), hI_sI_ne (by decide), hI_sI_ne (by decide)]
      exact Inv_K hi (by omega) e
  · rw [if_neg hb, Option.bind_some, R_sea, if_neg hb, Option.bind_some, if_pos rfl]
    exact ⟨_, rfl, τ, refuse_ok hi (Or.inl rfl)⟩
