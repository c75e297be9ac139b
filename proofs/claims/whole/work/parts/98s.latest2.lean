/-! ways: latest, the reference's -/
/-- rows of 101 from step s on -/
def LRm (L : Nat → Nat → Bool) (s lim : Nat) (g : Hp) : Prop := ∀ s2 c, s ≤ s2 → s2 ≤ lim → c < 50 → hI g 101 (50 * s2 + c) = b01 (L s2 c)
theorem p_la122 {τ : Nat → TF} {K : Nat → Int32} {b a t s lim c : Nat} {g : Hp} (X : LX τ K g) (hb : b < 6) (hc : c < 50) (hs : s < 144) {x : Bool} : s_Mod_latest_122 (nI b) (nI a) (nI t) (nI lim) (nI s) (nI c) (b01 x) g = some (.inl (nI b, nI a, nI t, nI lim, nI s, nI (c + 1), sI g 101 (50 * s + c) (b01 (x && canB (tin τ K) K b c (10 * s))))) := by
  have e160 : ∀ y : Bool, s_Mod_latest_160 (nI b) (nI a) (nI t) (nI lim) (nI s) (nI c) (b01 y) (50 * nI s + nI c) g = some (.inl (nI b, nI a, nI t, nI lim, nI s, nI (c + 1), sI g 101 (50 * s + c) (b01 y))) := fun y => by
    unfold s_Mod_latest_160
    rw [i50, ib_nI (by omega) (by decide), show ix (nI (50 * s + c)) = 50 * s + c from nI_clamp (by omega), nI_1]
    cases y <;> rfl
  rw [← e160]
  unfold s_Mod_latest_122 s_Mod_latest_159
  cases x
  · rw [if_pos (show b01 false = 0 by decide), Bool.false_and]; rfl
  · rw [if_neg (show ¬ b01 true = 0 by decide), p_minuteOf (by omega) (by decide), Option.bind_some, mnS_0 hs, p_canBeR X hb hc (by omega), Option.bind_some, Bool.true_and]
    cases canB (tin τ K) K b c (10 * s)
    · rw [if_pos (show (if false = true then (1 : Int32) else 0) = 0 by decide)]; rfl
    · rw [if_neg (show ¬ (if true = true then (1 : Int32) else 0) = 0 by decide)]; rfl
theorem p_la53 {τ : Nat → TF} {K : Nat → Int32} {b a t s lim c : Nat} {g : Hp} {L : Nat → Nat → Bool} (X : LX τ K g) (hb : b < 6) (hc : c < 50) (hs : s < lim) (hl : lim < 144) (P : LRm L (s + 1) lim g) : ∀ (q j : Nat) (x : Bool), j + q = 5 → x = (decide (c = t) || gB (tin τ K) K b s c (L (s + 1)) j) → lp (fun q : Int32 × Int32 × Int32 × Int32 × Int32 × Int32 × Int32 × Int32 × Hp => s_Mod_latest_53 q.1 q.2.1 q.2.2.1 q.2.2.2.1 q.2.2.2.2.1 q.2.2.2.2.2.1 q.2.2.2.2.2.2.1 q.2.2.2.2.2.2.2.1 q.2.2.2.2.2.2.2.2) (nI b, nI a, nI t, nI lim, nI s, nI c, b01 x, nI j, g) = some (.inl (nI b, nI a, nI t, nI lim, nI s, nI (c + 1), sI g 101 (50 * s + c) (b01 ((decide (c = t) || gB (tin τ K) K b s c (L (s + 1)) 5) && canB (tin τ K) K b c (10 * s))))) := by
  intro q
  induction q with
  | zero =>
    intro j x hj hx
    have hj : j = 5 := by omega
    subst hj
    refine lp_inr ?_
    show s_Mod_latest_53 (nI b) (nI a) (nI t) (nI lim) (nI s) (nI c) (b01 x) (nI 5) g = _
    unfold s_Mod_latest_53
    rw [if_pos (show (5 : Int32) ≤ nI 5 by decide), ← hx, p_la122 X hb hc (by omega)]
    rfl
  | succ q ih =>
    intro j x hj hx
    have e114 : ∀ y : Bool, s_Mod_latest_114 (nI b) (nI a) (nI t) (nI lim) (nI s) (nI c) (nI j) (b01 y) g = some (.inl (nI b, nI a, nI t, nI lim, nI s, nI c, b01 y, nI (j + 1), g)) := fun y => by
      unfold s_Mod_latest_114
      rw [nI_1]
    have stp : s_Mod_latest_53 (nI b) (nI a) (nI t) (nI lim) (nI s) (nI c) (b01 x) (nI j) g = some (.inl (nI b, nI a, nI t, nI lim, nI s, nI c, b01 (x || (match beh (tin τ K) K b c s j 0 with
        | some d => L (s + 1) d
        | none => false)), nI (j + 1), g)) := by
      rw [← e114]
      unfold s_Mod_latest_53 s_Mod_latest_113 s_Mod_latest_109
      rw [if_neg (by rw [show (5 : Int32) = nI 5 from rfl, nI_leI (by decide) (by omega)]; omega), if_neg (by rw [nI_leI (by omega) (by omega)]; omega), p_behind X hb hc (by omega) (by omega) (by decide), Option.bind_some]
      cases x
      · rw [if_pos (show b01 false = 0 by decide), Bool.false_or]
        cases e : beh (tin τ K) K b c s j 0 with
        | none => rw [if_pos (show oI none = -1 from rfl)]; rfl
        | some d =>
          have hd := beh_lt hc e
          rw [show oI (some d) = nI d from rfl, if_neg (nI_m1 (by omega)), nI_1, i50, ib_nI (by omega) (by decide), show ix (nI (50 * (s + 1) + d)) = 50 * (s + 1) + d from nI_clamp (by omega), P (s + 1) d (by omega) (by omega) hd]
          show _ = s_Mod_latest_114 _ _ _ _ _ _ _ (b01 (L (s + 1) d)) g
          cases L (s + 1) d
          · rw [if_pos (show b01 false = 0 by decide)]; rfl
          · rw [if_neg (show ¬ b01 true = 0 by decide)]; rfl
      · rw [if_neg (show ¬ b01 true = 0 by decide), Bool.true_or]; rfl
    rw [lp_inl stp]
    refine ih (j + 1) _ (by omega) ?_
    rw [hx]
    unfold gB
    rw [any_s, Bool.or_assoc]
    rfl
