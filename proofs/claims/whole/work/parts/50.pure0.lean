/-! the pure part: small words -/
theorem hI_sI' (h : Hp) (j k : Nat) (v : Int32) (a b : Nat) : hI (sI h j k v) a b = if a = j ∧ b = k then v else hI h a b := by
  by_cases ha : a = j
  · subst ha
    rw [hI_sI]
    by_cases hb : b = k
    · simp [upd, hb]
    · simp [upd, hb]
  · rw [hI_sI_ne ha]
    simp [ha]
theorem hL_sI (h : Hp) (j k : Nat) (v : Int32) : hL (sI h j k v) = hL h := rfl
theorem hR_sI (h : Hp) (j k : Nat) (v : Int32) : hR (sI h j k v) = hR h := rfl
theorem hN_sI (h : Hp) (j k : Nat) (v : Int32) : hN (sI h j k v) = hN h := rfl
theorem hS_sI (h : Hp) (j k : Nat) (v : Int32) : hS (sI h j k v) = hS h := rfl
theorem hD_sI (h : Hp) (j k : Nat) (v : Int32) : hD (sI h j k v) = hD h := rfl
theorem ib_some {α : Type} {i : Int32} {n : Nat} (F : Option α) (h0 : ¬ i < 0) (h1 : ix i < n) : ib i n F = F := by
  unfold ib
  rw [if_neg]
  intro z
  rcases z with z | z
  · exact h0 z
  · exact absurd h1 (Nat.not_lt.mpr z)
/-- a number within bounds -/
def wi (v a b : Int32) : Int32 := if v < a then 0 else if b < v then 0 else 1
theorem wi_1 {v a b : Int32} : wi v a b = 1 ↔ a ≤ v ∧ v ≤ b := by
  unfold wi
  split
  · rename_i h
    constructor
    · intro z; exact absurd z (by decide)
    · intro z; exact absurd h (Int32.not_lt.mpr z.1)
  · rename_i h
    split
    · rename_i h2
      constructor
      · intro z; exact absurd z (by decide)
      · intro z; exact absurd h2 (Int32.not_lt.mpr z.2)
    · rename_i h2
      exact ⟨fun _ => ⟨Int32.not_lt.mp h, Int32.not_lt.mp h2⟩, fun _ => rfl⟩
theorem wi_or (v a b : Int32) : wi v a b = 0 ∨ wi v a b = 1 := by
  unfold wi
  split
  · exact Or.inl rfl
  · split
    · exact Or.inl rfl
    · exact Or.inr rfl
theorem bz_0 {α : Type} (F : Option α) : bz 0 F = F := if_pos (Or.inl rfl)
theorem bz_1 {α : Type} (F : Option α) : bz 1 F = F := if_pos (Or.inr rfl)
theorem bz_wi {α : Type} (v a b : Int32) (F : Option α) : bz (wi v a b) F = F := if_pos (wi_or v a b)
theorem p_within (v a b : Int32) (h : Hp) : s_Race_isWithin v a b h = some (wi v a b) := by
  simp only [s_Race_isWithin, s_Race_isWithin_14, s_Race_isWithin_15, wi, bz_0, bz_1]
  split
  · rfl
  · split <;> rfl
theorem p_lies (v a b : Int32) (h : Hp) : s_Mod_lies v a b h = some (wi v a b) := by
  simp only [s_Mod_lies, s_Mod_lies_14, s_Mod_lies_15, wi, bz_0, bz_1]
  split
  · rfl
  · split <;> rfl
theorem p_isEnd (v : Int32) (h : Hp) : s_Mod_isEnd v h = some (wi v 0 1) := by
  simp only [s_Mod_isEnd, p_lies, Option.bind_some, bz_wi]
theorem p_refuses (v : Int32) (h : Hp) (hv : v = -1 ∨ v = -2 ∨ v = -5 ∨ v = -6) : s_Mod_refuses v h = some (v, sI (sI h 84 0 v) 85 (ix (-v)) (hI h 85 (ix (-v)) + 1)) := by
  rcases hv with rfl | rfl | rfl | rfl <;>
    (simp only [s_Mod_refuses, lt]
     rw [ib_some _ (by decide) (by decide), ib_some _ (by decide) (by decide), hI_sI_ne (by decide)])
theorem p_good (v : Int32) (h : Hp) : s_Mod_good v h = some (v, sI (sI h 84 0 0) 84 1 (hI h 84 1 + 1)) := by
  simp only [s_Mod_good, lt]
  rw [hI_sI']
  rfl
