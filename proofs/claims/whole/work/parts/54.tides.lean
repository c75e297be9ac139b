/-! levels: the class's row of tides -/
theorem p_raceWave {m ph per : Int32} (h : Hp) (hp : ¬ per = 0) : s_Race_wave m ph per h = some (wv (z_rem (m + ph) per) per) := by
  simp only [s_Race_wave, s_Race_wave_49, cn_some hp, lt, wv]
  split <;> rfl
/-- the row of tides: of end e the first m minutes have k + 1 moons, the others k; outside of e's minutes it is f -/
def rwT (K : Nat → Int32) (f : Nat → Int32) (e k m : Nat) : Nat → Int32 := fun j =>
  if 1440 * e ≤ j ∧ j < 1440 * e + m then td K e (nI (j - 1440 * e)) (k + 1) else if 1440 * e ≤ j ∧ j < 1440 * e + 1440 then td K e (nI (j - 1440 * e)) k else f j
theorem rwT_end (K f : Nat → Int32) (e k : Nat) : rwT K f e k 1440 = rwT K f e (k + 1) 0 := by
  funext j
  unfold rwT
  by_cases h1 : 1440 * e ≤ j ∧ j < 1440 * e + 1440
  · rw [if_pos h1, if_neg (by omega), if_pos h1]
  · rw [if_neg h1, if_neg h1, if_neg (by omega), if_neg h1]
theorem rwT_step (K f : Nat → Int32) {e k m : Nat} (hm : m < 1440) : upd (rwT K f e k m) (1440 * e + m) (rwT K f e k m (1440 * e + m) + mnA (K (6 + 12 * e + 3 * k)) (K (7 + 12 * e + 3 * k)) (K (8 + 12 * e + 3 * k)) (nI m)) = rwT K f e k (m + 1) := by
  funext j
  unfold upd
  by_cases hj : j = 1440 * e + m
  · subst hj
    rw [if_pos rfl]
    unfold rwT
    rw [if_neg (by omega), if_pos (by omega), if_pos (by omega), show 1440 * e + m - 1440 * e = m by omega]
    rfl
  · rw [if_neg hj]
    unfold rwT
    by_cases h1 : 1440 * e ≤ j ∧ j < 1440 * e + m
    · rw [if_pos h1, if_pos (show 1440 * e ≤ j ∧ j < 1440 * e + (m + 1) by omega)]
    · rw [if_neg h1, if_neg (show ¬ (1440 * e ≤ j ∧ j < 1440 * e + (m + 1)) by omega)]
theorem mnA_0 (per ph m : Int32) : mnA 0 per ph m = 0 := by
  unfold mnA
  rw [Int32.zero_mul]
  decide
theorem td_0 {K : Nat → Int32} {e k : Nat} (h0 : K (6 + 12 * e + 3 * k) = 0) (m : Int32) : td K e m (k + 1) = td K e m k := by
  show td K e m k + mnA _ _ _ m = _
  rw [h0, mnA_0, Int32.add_zero]
theorem rwT_0 {K : Nat → Int32} (f : Nat → Int32) {e k : Nat} (h0 : K (6 + 12 * e + 3 * k) = 0) : rwT K f e k 0 = rwT K f e (k + 1) 0 := by
  funext j
  unfold rwT
  have hz : ¬ (1440 * e ≤ j ∧ j < 1440 * e + 0) := by omega
  rw [if_neg hz, if_neg hz]
  by_cases h1 : 1440 * e ≤ j ∧ j < 1440 * e + 1440
  · rw [if_pos h1, if_pos h1, td_0 h0]
  · rw [if_neg h1, if_neg h1]
theorem p_addMoon {K f : Nat → Int32} {h : Hp} {e k : Nat} (he : e ≤ 1) (hk : k < 4) (hM : ∀ i, i < 24 → hI h 3 i = K (6 + i)) (hp : 0 < K (7 + 12 * e + 3 * k)) : s_Water_addMoon (nI (1440 * e)) (nI (12 * e + 3 * k)) (wI h 54 (rwT K f e k 0)) = some (wI h 54 (rwT K f e (k + 1) 0)) := by
  have hM' : ∀ F, ∀ i, i < 24 → hI (wI h 54 F) 3 i = K (6 + i) := fun F i hi => by rw [hI_wI_ne (by decide)]; exact hM i hi
  have hp0 : ¬ K (7 + 12 * e + 3 * k) = 0 := fun z => by rw [z] at hp; exact absurd hp (by decide)
  have i0 : nI (12 * e + 3 * k) + 0 = nI (12 * e + 3 * k) := by rw [Int32.add_zero]
  have i1 : nI (12 * e + 3 * k) + 1 = nI (12 * e + 3 * k + 1) := nI_1 _
  have i2 : nI (12 * e + 3 * k) + 2 = nI (12 * e + 3 * k + 2) := nI_add _ 2
  have c0 := hM' (rwT K f e k 0) (12 * e + 3 * k) (by omega)
  have c1 := hM' (rwT K f e k 0) (12 * e + 3 * k + 1) (by omega)
  have c2 := hM' (rwT K f e k 0) (12 * e + 3 * k + 2) (by omega)
  rw [show 6 + (12 * e + 3 * k) = 6 + 12 * e + 3 * k by omega] at c0
  rw [show 6 + (12 * e + 3 * k + 1) = 7 + 12 * e + 3 * k by omega] at c1
  rw [show 6 + (12 * e + 3 * k + 2) = 8 + 12 * e + 3 * k by omega] at c2
  have key : ∀ (r m : Nat), m + r = 1440 → lp (fun q : Int32 × Int32 × Int32 × Int32 × Int32 × Hp => s_Water_addMoon_51 q.1 q.2.1 q.2.2.1 q.2.2.2.1 q.2.2.2.2.1 q.2.2.2.2.2) (nI (1440 * e), K (6 + 12 * e + 3 * k), K (7 + 12 * e + 3 * k), K (8 + 12 * e + 3 * k), nI m, wI h 54 (rwT K f e k m)) = some (wI h 54 (rwT K f e (k + 1) 0)) := by
    intro r
    induction r with
    | zero =>
      intro m hm
      have hm : m = 1440 := by omega
      subst hm
      refine lp_inr ?_
      show s_Water_addMoon_51 _ _ _ _ (nI 1440) _ = _
      unfold s_Water_addMoon_51
      rw [if_pos (by decide), rwT_end]
    | succ r ih =>
      intro m hm
      rw [lp_inl (s' := (nI (1440 * e), K (6 + 12 * e + 3 * k), K (7 + 12 * e + 3 * k), K (8 + 12 * e + 3 * k), nI (m + 1), wI h 54 (rwT K f e k (m + 1)))) ?_]
      · exact ih (m + 1) (by omega)
      · show s_Water_addMoon_51 _ _ _ _ (nI m) _ = _
        unfold s_Water_addMoon_51
        rw [if_neg (by rw [show (1440 : Int32) = nI 1440 from rfl, nI_leI (by omega) (by omega)]; omega), nI_add, ib_nI (by omega) (by decide), p_raceWave _ hp0, Option.bind_some, ib_nI (by omega) (by decide), ix, nI_clamp (by omega), nI_1, sI_wI, hI_wI]
        have := rwT_step K f (e := e) (k := k) (show m < 1440 by omega)
        unfold mnA at this
        rw [this]
  unfold s_Water_addMoon
  rw [i0, i1, i2, ib_nI (by omega) (by decide), ib_nI (by omega) (by decide), ib_nI (by omega) (by decide), ix, ix, ix, nI_clamp (by omega), nI_clamp (by omega), nI_clamp (by omega), c0, c1, c2]
  by_cases h0 : K (6 + 12 * e + 3 * k) = 0
  · rw [if_pos h0]
    unfold s_Water_addMoon_47
    rw [rwT_0 f h0]
  · rw [if_neg h0, if_pos hp]
    exact key 1440 0 rfl
