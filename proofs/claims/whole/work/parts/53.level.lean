/-! levels: the reference's -/
theorem nI_mul (a b : Nat) : nI a * nI b = nI (a * b) := (Int32.ofNat_mul a b).symm
def wv (p per : Int32) : Int32 := if 2000 < 4000 * p / per then -((4000 * p / per - 2000) * (4000 - 4000 * p / per) / 1000) else (4000 * p / per) * (2000 - 4000 * p / per) / 1000
def mnA (ht per ph m : Int32) : Int32 := ht * wv (z_rem (m + ph) per) per / 1000
/-- the tide of an end: its mean and its first k moons -/
def td (K : Nat → Int32) (e : Nat) (m : Int32) : Nat → Int32
  | 0 => K (3 * e)
  | k + 1 => td K e m k + mnA (K (6 + 12 * e + 3 * k)) (K (7 + 12 * e + 3 * k)) (K (8 + 12 * e + 3 * k)) m
def Lv (K : Nat → Int32) (e : Nat) (m wind glass : Int32) : Int32 := td K e m 4 + K (3 * e + 1) * (1013 - glass) + K (3 * e + 2) * wind
theorem cn_some {α : Type} {y : Int32} (hy : ¬ y = 0) (F : Option α) : cn y F = F := if_neg hy
theorem p_wave {p per : Int32} (h : Hp) (hp : ¬ per = 0) : s_Mod_wave p per h = some (wv p per) := by
  simp only [s_Mod_wave, s_Mod_wave_45, cn_some hp, wv]
  split <;> rfl
theorem p_moonAt {ht per ph m : Int32} (h : Hp) (hp : ¬ per = 0) : s_Mod_moonAt ht per ph m h = some (mnA ht per ph m) := by
  simp only [s_Mod_moonAt, cn_some hp, p_wave h hp, Option.bind_some, mnA]
theorem ix_moon (e k c : Nat) : (6 : Int32) + 12 * nI e + 3 * nI k + nI c = nI (6 + 12 * e + 3 * k + c) := by
  rw [show (6 : Int32) = nI 6 from rfl, show (12 : Int32) = nI 12 from rfl, show (3 : Int32) = nI 3 from rfl, nI_mul, nI_mul, nI_add, nI_add, nI_add]
theorem p_moonOf {e k c : Nat} (h : Hp) (he : e ≤ 1) (hk : k < 4) (hc : c < 3) : s_Mod_moonOf (nI e) (nI k) (nI c) h = some (hI h 86 (6 + 12 * e + 3 * k + c)) := by
  simp only [s_Mod_moonOf, ix_moon]
  rw [ib_nI (by omega) (by decide), ix, nI_clamp (by omega)]
theorem ix_sea (e c : Nat) : (0 : Int32) + 3 * nI e + nI c = nI (3 * e + c) := by
  rw [show (3 : Int32) = nI 3 from rfl, nI_mul, show (0 : Int32) = nI 0 from rfl, nI_add, nI_add, Nat.zero_add]
theorem ix_sea0 (e : Nat) : (0 : Int32) + 3 * nI e = nI (3 * e) := by
  rw [show (3 : Int32) = nI 3 from rfl, nI_mul, show (0 : Int32) = nI 0 from rfl, nI_add, Nat.zero_add]
theorem p_levelOf {e : Nat} {m wind glass : Int32} (h : Hp) (he : e ≤ 1) (hp : ∀ k, k < 4 → ¬ hI h 86 (7 + 12 * e + 3 * k) = 0) : s_Mod_levelOf (nI e) m wind glass h = some (Lv (hI h 86) e m wind glass) := by
  have key : ∀ (r k : Nat), k + r = 4 → lp (fun q : Int32 × Int32 × Int32 × Int32 × Int32 × Int32 => s_Mod_levelOf_15 q.1 q.2.1 q.2.2.1 q.2.2.2.1 q.2.2.2.2.1 q.2.2.2.2.2 h) (nI e, m, wind, glass, td (hI h 86) e m k, nI k) = some (Lv (hI h 86) e m wind glass) := by
    intro r
    induction r with
    | zero =>
      intro k hk
      have hk : k = 4 := by omega
      subst hk
      refine lp_inr ?_
      show s_Mod_levelOf_15 (nI e) m wind glass (td (hI h 86) e m 4) (nI 4) h = _
      unfold s_Mod_levelOf_15
      have e1 := ix_sea e 1
      have e2 := ix_sea e 2
      rw [show nI 1 = (1 : Int32) from rfl] at e1
      rw [show nI 2 = (2 : Int32) from rfl] at e2
      rw [if_pos (by decide), e1, e2, ib_nI (by omega) (by decide), ib_nI (by omega) (by decide), ix, ix, nI_clamp (by omega), nI_clamp (by omega)]
      rfl
    | succ r ih =>
      intro k hk
      rw [lp_inl (s' := (nI e, m, wind, glass, td (hI h 86) e m (k + 1), nI (k + 1))) ?_]
      · exact ih (k + 1) (by omega)
      · show s_Mod_levelOf_15 (nI e) m wind glass (td (hI h 86) e m k) (nI k) h = _
        unfold s_Mod_levelOf_15
        have g0 := p_moonOf (c := 0) h he (show k < 4 by omega) (by omega)
        have g1 := p_moonOf (c := 1) h he (show k < 4 by omega) (by omega)
        have g2 := p_moonOf (c := 2) h he (show k < 4 by omega) (by omega)
        rw [show nI 0 = (0 : Int32) from rfl] at g0
        rw [show nI 1 = (1 : Int32) from rfl, show 6 + 12 * e + 3 * k + 1 = 7 + 12 * e + 3 * k by omega] at g1
        rw [show nI 2 = (2 : Int32) from rfl, show 6 + 12 * e + 3 * k + 2 = 8 + 12 * e + 3 * k by omega] at g2
        rw [if_neg (by rw [show (4 : Int32) = nI 4 from rfl, nI_leI (by omega) (by omega)]; omega), g0, Option.bind_some, g1, Option.bind_some, g2, Option.bind_some, p_moonAt h (hp k (by omega)), Option.bind_some, nI_1]
        rfl
  unfold s_Mod_levelOf
  rw [ix_sea0, ib_nI (by omega) (by decide), ix, nI_clamp (by omega)]
  exact key 4 0 rfl
