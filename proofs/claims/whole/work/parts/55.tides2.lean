/-! the class's tides, whole -/
def bsT (K f : Nat → Int32) (e m : Nat) : Nat → Int32 := fun j => if 1440 * e ≤ j ∧ j < 1440 * e + m then K (3 * e) else f j
theorem bsT_0 (K f : Nat → Int32) (e : Nat) : bsT K f e 0 = f := funext fun j => if_neg (by omega)
theorem bsT_end (K f : Nat → Int32) (e : Nat) : bsT K f e 1440 = rwT K f e 0 0 := by
  funext j
  unfold bsT rwT
  rw [if_neg (show ¬ (1440 * e ≤ j ∧ j < 1440 * e + 0) by omega)]
  rfl
theorem bsT_step (K f : Nat → Int32) {e m : Nat} : upd (bsT K f e m) (1440 * e + m) (K (3 * e)) = bsT K f e (m + 1) := by
  funext j
  unfold upd
  by_cases hj : j = 1440 * e + m
  · rw [if_pos hj]
    unfold bsT
    rw [if_pos (by omega)]
  · rw [if_neg hj]
    unfold bsT
    by_cases h1 : 1440 * e ≤ j ∧ j < 1440 * e + m
    · rw [if_pos h1, if_pos (show 1440 * e ≤ j ∧ j < 1440 * e + (m + 1) by omega)]
    · rw [if_neg h1, if_neg (show ¬ (1440 * e ≤ j ∧ j < 1440 * e + (m + 1)) by omega)]
theorem p_moonPlace (e k : Nat) (h : Hp) : s_Race_moonPlace (nI e) (nI k) h = some (nI (12 * e + 3 * k)) := by
  simp only [s_Race_moonPlace]
  rw [show (4 : Int32) = nI 4 from rfl, show (3 : Int32) = nI 3 from rfl, nI_mul, nI_add, nI_mul, show (e * 4 + k) * 3 = 12 * e + 3 * k by omega]
theorem p_tides59 {K f : Nat → Int32} {h : Hp} {e : Nat} (he : e ≤ 1) (hM : ∀ i, i < 24 → hI h 3 i = K (6 + i)) (hp : ∀ k, k < 4 → 0 < K (7 + 12 * e + 3 * k)) : ∀ (r k : Nat), k + r = 4 → lp (fun q : Int32 × Int32 × Int32 × Hp => s_Water_freshenTides_59 q.1 q.2.1 q.2.2.1 q.2.2.2) (nI e, nI (1440 * e), nI k, wI h 54 (rwT K f e k 0)) = some (.inl (nI (e + 1), wI h 54 (rwT K f e 4 0))) := by
  intro r
  induction r with
  | zero =>
    intro k hk
    have hk : k = 4 := by omega
    subst hk
    refine lp_inr ?_
    show s_Water_freshenTides_59 _ _ (nI 4) _ = _
    unfold s_Water_freshenTides_59
    rw [if_pos (by decide), nI_1]
  | succ r ih =>
    intro k hk
    rw [lp_inl (s' := (nI e, nI (1440 * e), nI (k + 1), wI h 54 (rwT K f e (k + 1) 0))) ?_]
    · exact ih (k + 1) (by omega)
    · show s_Water_freshenTides_59 _ _ (nI k) _ = _
      unfold s_Water_freshenTides_59
      rw [if_neg (by rw [show (4 : Int32) = nI 4 from rfl, nI_leI (by omega) (by omega)]; omega), p_moonPlace, Option.bind_some, p_addMoon he (by omega) hM (hp k (by omega)), Option.bind_some, nI_1]
theorem p_tides23 {K f : Nat → Int32} {h : Hp} {e : Nat} (he : e ≤ 1) (hS : ∀ i, i < 6 → hI h 2 i = K i) (hM : ∀ i, i < 24 → hI h 3 i = K (6 + i)) (hp : ∀ k, k < 4 → 0 < K (7 + 12 * e + 3 * k)) : ∀ (r m : Nat), m + r = 1440 → lp (fun q : Int32 × Int32 × Int32 × Hp => s_Water_freshenTides_23 q.1 q.2.1 q.2.2.1 q.2.2.2) (nI e, nI (1440 * e), nI m, wI h 54 (bsT K f e m)) = some (.inl (nI (e + 1), wI h 54 (rwT K f e 4 0))) := by
  intro r
  induction r with
  | zero =>
    intro m hm
    have hm : m = 1440 := by omega
    subst hm
    refine lp_inr ?_
    show s_Water_freshenTides_23 _ _ (nI 1440) _ = _
    unfold s_Water_freshenTides_23
    rw [if_pos (by decide), bsT_end]
    have := p_tides59 (f := f) he hM hp 4 0 rfl
    rw [show nI 0 = (0 : Int32) from rfl] at this
    rw [this]
    rfl
  | succ r ih =>
    intro m hm
    rw [lp_inl (s' := (nI e, nI (1440 * e), nI (m + 1), wI h 54 (bsT K f e (m + 1)))) ?_]
    · exact ih (m + 1) (by omega)
    · show s_Water_freshenTides_23 _ _ (nI m) _ = _
      unfold s_Water_freshenTides_23
      have i0 : nI e * 3 + 0 = nI (3 * e) := by rw [Int32.add_zero, show (3 : Int32) = nI 3 from rfl, nI_mul, Nat.mul_comm]
      have c0 : hI (wI h 54 (bsT K f e m)) 2 (3 * e) = K (3 * e) := by rw [hI_wI_ne (by decide)]; exact hS _ (by omega)
      rw [if_neg (by rw [show (1440 : Int32) = nI 1440 from rfl, nI_leI (by omega) (by omega)]; omega), i0, ib_nI (by omega) (by decide), nI_add, ib_nI (by omega) (by decide), ix, ix, nI_clamp (by omega), nI_clamp (by omega), c0, nI_1, sI_wI, bsT_step]
/-- the row of tides when it is fresh -/
def tdRow (K f : Nat → Int32) : Nat → Int32 := rwT K (rwT K f 0 4 0) 1 4 0
theorem tdRow_at (K f : Nat → Int32) {e m : Nat} (he : e ≤ 1) (hm : m < 1440) : tdRow K f (1440 * e + m) = td K e (nI m) 4 := by
  unfold tdRow rwT
  rcases (show e = 0 ∨ e = 1 by omega) with rfl | rfl
  · rw [if_neg (by omega), if_neg (by omega), if_neg (by omega), if_pos (by omega), show 1440 * 0 + m - 1440 * 0 = m by omega]
  · rw [if_neg (by omega), if_pos (by omega), show 1440 * 1 + m - 1440 * 1 = m by omega]
theorem p_freshenTides {K : Nat → Int32} {h : Hp} (hS : ∀ i, i < 6 → hI h 2 i = K i) (hM : ∀ i, i < 24 → hI h 3 i = K (6 + i)) (hp : ∀ e k, e ≤ 1 → k < 4 → 0 < K (7 + 12 * e + 3 * k)) (hf : hI h 50 9 = 0) : s_Water_freshenTides h = some (sI (wI h 54 (tdRow K (hI h 54))) 50 9 1) := by
  have s0 := p_tides23 (f := hI h 54) (e := 0) (by omega) hS hM (hp 0 · (by omega)) 1440 0 rfl
  have s1 := p_tides23 (f := rwT K (hI h 54) 0 4 0) (e := 1) (by omega) hS hM (hp 1 · (by omega)) 1440 0 rfl
  rw [bsT_0] at s0 s1
  rw [wI_self] at s0
  unfold s_Water_freshenTides
  rw [if_pos hf]
  rw [lp_inl (s' := (nI 1, wI h 54 (rwT K (hI h 54) 0 4 0))) ?_, lp_inl (s' := (nI 2, wI h 54 (rwT K (rwT K (hI h 54) 0 4 0) 1 4 0))) ?_, lp_inr (t := sI (wI h 54 (tdRow K (hI h 54))) 50 9 1) ?_]
  · show s_Water_freshenTides_10 (nI 2) _ = _
    unfold s_Water_freshenTides_10
    rw [if_pos (by decide)]
    rfl
  · show s_Water_freshenTides_10 (nI 1) _ = _
    unfold s_Water_freshenTides_10
    rw [if_neg (by decide)]
    exact s1
  · show s_Water_freshenTides_10 0 h = _
    unfold s_Water_freshenTides_10
    rw [if_neg (by decide)]
    exact s0
