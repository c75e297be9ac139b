/-! ways: way, the reference's -/
def rdB (T : TF) (K : Nat → Int32) (b s0 a t u : Nat) : Nat → Nat → Bool
  | 0, c => decide (c = t) && rch T K b s0 a (u - s0) c
  | j + 1, c => gB T K b (u - (j + 1)) c (rdB T K b s0 a t u j) 5 && rch T K b s0 a (u - (j + 1) - s0) c
theorem rl_wl {T : TF} {K : Nat → Int32} {b s0 a t u : Nat} (rg : Rg K) : ∀ (j c : Nat), j ≤ u - s0 → c < 50 → rch T K b s0 a (u - j - s0) c = true → rdB T K b s0 a t u j c = wlB T K b t u j c
  | 0, c, _, hc, h => by
    rw [Nat.sub_zero] at h
    rw [rdB, wlB, h, Bool.and_true]
  | j + 1, c, hj, hc, h => by
    have h1 := rch_can rg _ c h
    rw [show s0 + (u - (j + 1) - s0) = u - (j + 1) by omega] at h1
    rw [rdB, wlB, h, h1, Bool.and_true, Bool.and_true]
    apply Bool.eq_iff_iff.mpr
    rw [gB_5 hc, gB_5 hc]
    have key : ∀ d, d < 50 → ed T K b (u - (j + 1)) c d → rdB T K b s0 a t u j d = wlB T K b t u j d := fun d hd e => by
      refine rl_wl rg j d (by omega) hd ?_
      rw [show u - j - s0 = (u - (j + 1) - s0) + 1 by omega]
      exact rch_s.mpr ⟨hd, c, hc, h, by rw [show s0 + (u - (j + 1) - s0) = u - (j + 1) by omega]; exact e⟩
    constructor
    · rintro ⟨d, d1, d2, d3⟩
      exact ⟨d, d1, by rw [← key d d1 d3]; exact d2, d3⟩
    · rintro ⟨d, d1, d2, d3⟩
      exact ⟨d, d1, by rw [key d d1 d3]; exact d2, d3⟩
theorem p_wa169 {T : TF} {K : Nat → Int32} {b s0 a t m u s c : Nat} {g : Hp} (hc : c < 50) (hs : s < 144) (R : hI g 100 (50 * s + c) = b01 (rch T K b s0 a (s - s0) c)) {x : Bool} : s_Mod_way_169 (nI b) (nI s0) (nI a) (nI t) (nI m) (nI u) (nI s) (nI c) (b01 x) g = some (.inl (nI b, nI s0, nI a, nI t, nI m, nI u, nI s, nI (c + 1), sI g 101 (50 * s + c) (b01 (x && rch T K b s0 a (s - s0) c)))) := by
  have e207 : ∀ y : Bool, s_Mod_way_207 (nI b) (nI s0) (nI a) (nI t) (nI m) (nI u) (nI s) (nI c) (b01 y) (nI (50 * s + c)) g = some (.inl (nI b, nI s0, nI a, nI t, nI m, nI u, nI s, nI (c + 1), sI g 101 (50 * s + c) (b01 y))) := fun y => by
    unfold s_Mod_way_207
    rw [ib_nI (by omega) (by decide), show ix (nI (50 * s + c)) = 50 * s + c from nI_clamp (by omega), nI_1]
    cases y <;> rfl
  rw [← e207]
  unfold s_Mod_way_169 s_Mod_way_206
  rw [i50]
  cases x
  · rw [if_pos (show b01 false = 0 by decide), Bool.false_and]; rfl
  · rw [if_neg (show ¬ b01 true = 0 by decide), ib_nI (by omega) (by decide), show ix (nI (50 * s + c)) = 50 * s + c from nI_clamp (by omega), R, Bool.true_and]
    cases rch T K b s0 a (s - s0) c
    · rw [if_pos (show b01 false = 0 by decide)]; rfl
    · rw [if_neg (show ¬ b01 true = 0 by decide)]; rfl
theorem p_wa100 {τ : Nat → TF} {K : Nat → Int32} {b s0 a t m u s c : Nat} {g : Hp} {L : Nat → Nat → Bool} (X : LX τ K g) (hb : b < 6) (hc : c < 50) (hs : s < u) (hu : u < 144) (R : hI g 100 (50 * s + c) = b01 (rch (tin τ K) K b s0 a (s - s0) c)) (P : LRm L (s + 1) u g) : ∀ (q j : Nat) (x : Bool), j + q = 5 → x = gB (tin τ K) K b s c (L (s + 1)) j → lp (fun q : Int32 × Int32 × Int32 × Int32 × Int32 × Int32 × Int32 × Int32 × Int32 × Int32 × Hp => s_Mod_way_100 q.1 q.2.1 q.2.2.1 q.2.2.2.1 q.2.2.2.2.1 q.2.2.2.2.2.1 q.2.2.2.2.2.2.1 q.2.2.2.2.2.2.2.1 q.2.2.2.2.2.2.2.2.1 q.2.2.2.2.2.2.2.2.2.1 q.2.2.2.2.2.2.2.2.2.2) (nI b, nI s0, nI a, nI t, nI m, nI u, nI s, nI c, b01 x, nI j, g) = some (.inl (nI b, nI s0, nI a, nI t, nI m, nI u, nI s, nI (c + 1), sI g 101 (50 * s + c) (b01 (gB (tin τ K) K b s c (L (s + 1)) 5 && rch (tin τ K) K b s0 a (s - s0) c)))) := by
  intro q
  induction q with
  | zero =>
    intro j x hj hx
    have hj : j = 5 := by omega
    subst hj
    refine lp_inr ?_
    show s_Mod_way_100 (nI b) (nI s0) (nI a) (nI t) (nI m) (nI u) (nI s) (nI c) (b01 x) (nI 5) g = _
    unfold s_Mod_way_100
    rw [if_pos (show (5 : Int32) ≤ nI 5 by decide), ← hx, p_wa169 hc (by omega) R]
    rfl
  | succ q ih =>
    intro j x hj hx
    have e161 : ∀ y : Bool, s_Mod_way_161 (nI b) (nI s0) (nI a) (nI t) (nI m) (nI u) (nI s) (nI c) (nI j) (b01 y) g = some (.inl (nI b, nI s0, nI a, nI t, nI m, nI u, nI s, nI c, b01 y, nI (j + 1), g)) := fun y => by
      unfold s_Mod_way_161
      rw [nI_1]
    have stp : s_Mod_way_100 (nI b) (nI s0) (nI a) (nI t) (nI m) (nI u) (nI s) (nI c) (b01 x) (nI j) g = some (.inl (nI b, nI s0, nI a, nI t, nI m, nI u, nI s, nI c, b01 (x || (match beh (tin τ K) K b c s j 0 with
        | some d => L (s + 1) d
        | none => false)), nI (j + 1), g)) := by
      rw [← e161]
      unfold s_Mod_way_100 s_Mod_way_160 s_Mod_way_156
      rw [if_neg (by rw [show (5 : Int32) = nI 5 from rfl, nI_leI (by decide) (by omega)]; omega), if_neg (by rw [nI_leI (by omega) (by omega)]; omega), p_behind X hb hc (by omega) (by omega) (by decide), Option.bind_some]
      cases x
      · rw [if_pos (show b01 false = 0 by decide), Bool.false_or]
        cases e : beh (tin τ K) K b c s j 0 with
        | none => rw [if_pos (show oI none = -1 from rfl)]; rfl
        | some d =>
          have hd := beh_lt hc e
          rw [show oI (some d) = nI d from rfl, if_neg (nI_m1 (by omega)), nI_1, i50, ib_nI (by omega) (by decide), show ix (nI (50 * (s + 1) + d)) = 50 * (s + 1) + d from nI_clamp (by omega), P (s + 1) d (by omega) (by omega) hd]
          show _ = s_Mod_way_161 _ _ _ _ _ _ _ _ _ (b01 (L (s + 1) d)) g
          cases L (s + 1) d
          · rw [if_pos (show b01 false = 0 by decide)]; rfl
          · rw [if_neg (show ¬ b01 true = 0 by decide)]; rfl
      · rw [if_neg (show ¬ b01 true = 0 by decide), Bool.true_or]; rfl
    rw [lp_inl stp]
    refine ih (j + 1) _ (by omega) ?_
    rw [hx]
    unfold gB
    rw [any_s]
    rfl
