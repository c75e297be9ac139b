/-! ways: one step -/
theorem canB_bt {T : TF} {K : Nat → Int32} {b s c : Nat} {h : Hp} (rg : Rg K) (V : SVs T K b s h) (hc : c < 50) : bt (hL h 62 s) c = canB T K b c (10 * s) := by
  rw [(V c hc).1]
  obtain ⟨k6, ek⟩ := kCl_e rg hc
  unfold canB p4
  rw [ek]
  congr 1
  by_cases z : kCl K c = 0
  · rw [z, decide_eq_false (p := 1 ≤ 0) (by decide)]
    rfl
  · rw [decide_eq_true (p := 1 ≤ kCl K c) (by omega), decide_eq_false (fun y => z (by rwa [show (0 : Int32) = nI 0 from rfl, nI_eq (by omega) (by decide)] at y))]
    rfl
theorem canB_k {T : TF} {K : Nat → Int32} {b m c : Nat} (rg : Rg K) (hc : c < 50) (h : canB T K b c m = true) : 1 ≤ kCl K c := by
  obtain ⟨k6, ek⟩ := kCl_e rg hc
  unfold canB at h
  rw [Bool.and_eq_true] at h
  rcases Nat.lt_or_ge (kCl K c) 1 with z | z
  · have : K (41 + c) = 0 := by rw [ek, show kCl K c = 0 by omega]; rfl
    rw [decide_eq_true this] at h
    exact absurd h.1 (by decide)
  · exact z
/-- a boat may go from c at step s to d -/
def ed (T : TF) (K : Nat → Int32) (b s c d : Nat) : Prop := ∃ mv, mv < 5 ∧ beh T K b c s mv 0 = some d
theorem beh_e {T : TF} {K : Nat → Int32} {b s c mv d : Nat} (rg : Rg K) (hs : s + 1 < 144) (hc : c < 50) : beh T K b c s mv 0 = some d ↔ toC c mv = some d ∧ (if mv = 1 then p8 T K b s (kCl K c) else if mv = 2 then pA T K b s (kCl K c) else p6 T K b s (kCl K c)) = true ∧ canB T K b d (10 * (s + 1)) = true := by
  unfold beh
  have em : mayG K mv (fa (mk pF K) (td0 T (mk pF K)) (K (41 + c)) (mnS s 0)) (K (91 + 2 * b)) = if mv = 1 then p8 T K b s (kCl K c) else if mv = 2 then pA T K b s (kCl K c) else p6 T K b s (kCl K c) := by
    unfold mayG p8 pA p6
    rw [mnS_0 (by omega), (kCl_e rg hc).2]
  cases e : toC c mv with
  | none =>
    constructor
    · intro z; cases z
    · intro z; cases z.1
  | some t =>
    show (if s + 1 < 144 then (if mayG K mv (fa (mk pF K) (td0 T (mk pF K)) (K (41 + c)) (mnS s 0)) (K (91 + 2 * b)) && canB T K b t (mnS (s + 1) 0) then some t else none) else none) = some d ↔ _
    rw [if_pos hs, em, mnS_0 (by omega)]
    generalize (if mv = 1 then p8 T K b s (kCl K c) else if mv = 2 then pA T K b s (kCl K c) else p6 T K b s (kCl K c)) = x
    constructor
    · intro z
      split at z
      · cases z
        rename_i w
        rw [Bool.and_eq_true] at w
        exact ⟨rfl, w.1, w.2⟩
      · cases z
    · rintro ⟨z1, z2, z3⟩
      cases z1
      rw [z2, z3]
      rfl
def hiz (v : Int64) : Prop := ∀ c, 50 ≤ c → c < 64 → bt v c = false
theorem hiz_one {k : Nat} (hk : k < 50) : hiz (z_lshl 1 (nI k)) := fun c h1 h2 => by
  have : ∀ k : Fin 50, ∀ c : Fin 64, 50 ≤ c.1 → bt (z_lshl 1 (nI k.1)) c.1 = false := by decide +kernel
  exact this ⟨k, hk⟩ ⟨c, h2⟩ h1
theorem hiz_and {v w : Int64} (h : hiz w) : hiz (v &&& w) := fun c h1 h2 => by rw [bt_and, h c h1 h2, Bool.and_false]
theorem hiz_full : hiz 1125899906842623 := fun c h1 h2 => (bt_full ⟨c, h2⟩).trans (decide_eq_false (show ¬ c < 50 by omega))
/-- where a set of boats can be a step later -/
theorem p_reached {τ : Nat → TF} {K : Nat → Int32} {b s : Nat} {h : Hp} {v : Int64} (X : WX τ K b h) (hs : s + 1 < 144) (hv : hiz v) (kv : ∀ c, c < 50 → bt v c = true → 1 ≤ kCl K c) : ∃ r, s_Ways_reached v (nI s) h = some r ∧ hiz r ∧ ∀ d, d < 50 → (bt r d = true ↔ ∃ c, c < 50 ∧ bt v c = true ∧ ed (tin τ K) K b s c d) := by
  have rg := X.1.1.1.2.1
  refine ⟨(((((v &&& hL h 63 s) ||| z_lshl (v &&& hL h 63 s) 10) ||| z_lushr (v &&& hL h 63 s) 10) ||| z_lshl (v &&& hL h 64 s) 1) ||| z_lushr (v &&& hL h 65 s) 1) &&& 1125899906842623 &&& hL h 62 (s + 1), ?_, fun c h1 h2 => ?_, fun d hd => ?_⟩
  · unfold s_Ways_reached
    rw [ib_nI (by omega) (by decide), ib_nI (by omega) (by decide), ib_nI (by omega) (by decide), lt_eq, nI_1, ib_nI hs (by decide), show ix (nI s) = s from nI_clamp (by omega), show ix (nI (s + 1)) = s + 1 from nI_clamp (by omega)]
  · rw [bt_and, bt_and, bt_full ⟨c, h2⟩, decide_eq_false (p := c < 50) (by omega), Bool.and_false, Bool.false_and]
  · have V := X.2.2 s (by omega)
    have e3 : ∀ c, c < 50 → (bt (v &&& hL h 63 s) c = true ↔ bt v c = true ∧ p6 (tin τ K) K b s (kCl K c) = true) := fun c hc => by
      rw [bt_and, (V c hc).2.1]
      simp only [Bool.and_eq_true, decide_eq_true_eq]
      exact ⟨fun z => ⟨z.1, z.2.2⟩, fun z => ⟨z.1, kv c hc z.1, z.2⟩⟩
    have e4 : ∀ c, c < 50 → (bt (v &&& hL h 64 s) c = true ↔ bt v c = true ∧ p8 (tin τ K) K b s (kCl K c) = true ∧ ¬ c % 10 = 9) := fun c hc => by
      rw [bt_and, (V c hc).2.2.1]
      simp only [Bool.and_eq_true, decide_eq_true_eq]
      exact ⟨fun z => ⟨z.1, z.2.1.2, z.2.2⟩, fun z => ⟨z.1, ⟨kv c hc z.1, z.2.1⟩, z.2.2⟩⟩
    have e5 : ∀ c, c < 50 → (bt (v &&& hL h 65 s) c = true ↔ bt v c = true ∧ pA (tin τ K) K b s (kCl K c) = true ∧ ¬ c % 10 = 0) := fun c hc => by
      rw [bt_and, (V c hc).2.2.2]
      simp only [Bool.and_eq_true, decide_eq_true_eq]
      exact ⟨fun z => ⟨z.1, z.2.1.2, z.2.2⟩, fun z => ⟨z.1, ⟨kv c hc z.1, z.2.1⟩, z.2.2⟩⟩
    have out : ∀ (w : Int64) (c : Nat), c < 64 → bt (v &&& w) c = true → c < 50 := fun w c hc z => by
      rcases Nat.lt_or_ge c 50 with y | y
      · exact y
      · rw [bt_and, hv c y hc, Bool.false_and] at z
        cases z
    rw [bt_and, bt_and, bt_or, bt_or, bt_or, bt_or, bt_l10 _ (by omega), bt_r10, bt_l1 _ (by omega), bt_r1, bt_full ⟨d, by omega⟩, canB_bt rg (X.2.2 (s + 1) hs) hd]
    simp only [Bool.and_eq_true, Bool.or_eq_true, decide_eq_true_eq]
    constructor
    · rintro ⟨⟨z, -⟩, y⟩
      rcases z with ((((z | z) | z) | z) | z)
      · obtain ⟨a1, a2⟩ := (e3 d hd).mp z
        exact ⟨d, hd, a1, 0, by decide, (beh_e rg hs hd).mpr ⟨rfl, a2, y⟩⟩
      · obtain ⟨a1, a2⟩ := (e3 (d - 10) (by omega)).mp z.2
        exact ⟨d - 10, by omega, a1, 3, by decide, (beh_e rg hs (by omega)).mpr ⟨by show (if d - 10 + 10 < 50 then some (d - 10 + 10) else none) = _; rw [if_pos (by omega), show d - 10 + 10 = d by omega], a2, y⟩⟩
      · have l := out _ _ (by omega) z
        obtain ⟨a1, a2⟩ := (e3 (10 + d) l).mp z
        exact ⟨10 + d, l, a1, 4, by decide, (beh_e rg hs l).mpr ⟨by show (if 10 + d < 10 then none else some (10 + d - 10)) = _; rw [if_neg (by omega), show 10 + d - 10 = d by omega], a2, y⟩⟩
      · obtain ⟨a1, a2, a3⟩ := (e4 (d - 1) (by omega)).mp z.2
        exact ⟨d - 1, by omega, a1, 1, by decide, (beh_e rg hs (by omega)).mpr ⟨by show (if (d - 1) % 10 = 9 then none else some (d - 1 + 1)) = _; rw [if_neg a3, show d - 1 + 1 = d by omega], a2, y⟩⟩
      · have l := out _ _ (by omega) z
        obtain ⟨a1, a2, a3⟩ := (e5 (1 + d) l).mp z
        exact ⟨1 + d, l, a1, 2, by decide, (beh_e rg hs l).mpr ⟨by show (if (1 + d) % 10 = 0 then none else some (1 + d - 1)) = _; rw [if_neg a3, show 1 + d - 1 = d by omega], a2, y⟩⟩
    · rintro ⟨c, hc, a1, mv, hm, e⟩
      obtain ⟨b1, b2, b3⟩ := (beh_e rg hs hc).mp e
      refine ⟨⟨?_, hd⟩, b3⟩
      have : mv = 0 ∨ mv = 1 ∨ mv = 2 ∨ mv = 3 ∨ mv = 4 := by omega
      rcases this with rfl | rfl | rfl | rfl | rfl
      · cases b1
        exact Or.inl (Or.inl (Or.inl (Or.inl ((e3 d hd).mpr ⟨a1, b2⟩))))
      · have b1 : (if c % 10 = 9 then none else some (c + 1)) = some d := b1
        split at b1
        · cases b1
        · cases b1
          rename_i z
          exact Or.inl (Or.inr ⟨by omega, (e4 c hc).mpr ⟨a1, b2, z⟩⟩)
      · have b1 : (if c % 10 = 0 then none else some (c - 1)) = some d := b1
        split at b1
        · cases b1
        · cases b1
          rename_i z
          refine Or.inr ?_
          rw [show 1 + (c - 1) = c by omega]
          exact (e5 c hc).mpr ⟨a1, b2, z⟩
      · have b1 : (if c + 10 < 50 then some (c + 10) else none) = some d := b1
        split at b1
        · cases b1
          refine Or.inl (Or.inl (Or.inl (Or.inr ⟨by omega, ?_⟩)))
          rw [show c + 10 - 10 = c by omega]
          exact (e3 c hc).mpr ⟨a1, b2⟩
        · cases b1
      · have b1 : (if c < 10 then none else some (c - 10)) = some d := b1
        split at b1
        · cases b1
        · cases b1
          refine Or.inl (Or.inl (Or.inr ?_))
          rw [show 10 + (c - 10) = c by omega]
          exact (e3 c hc).mpr ⟨a1, b2⟩
/-- whence a set can be reached -/
theorem p_reaching {τ : Nat → TF} {K : Nat → Int32} {b s : Nat} {h : Hp} {v : Int64} (X : WX τ K b h) (hs : s + 1 < 144) (hv : hiz v) (cv : ∀ d, d < 50 → bt v d = true → canB (tin τ K) K b d (10 * (s + 1)) = true) : ∃ r, s_Ways_reaching v (nI s) h = some r ∧ hiz r ∧ ∀ c, c < 50 → (bt r c = true ↔ canB (tin τ K) K b c (10 * s) = true ∧ ∃ d, d < 50 ∧ bt v d = true ∧ ed (tin τ K) K b s c d) := by
  have rg := X.1.1.1.2.1
  refine ⟨(((hL h 63 s &&& ((v ||| z_lshl v 10) ||| z_lushr v 10)) ||| (hL h 64 s &&& z_lushr v 1)) ||| (hL h 65 s &&& z_lshl v 1)) &&& 1125899906842623 &&& hL h 62 s, ?_, fun c h1 h2 => ?_, fun c hc => ?_⟩
  · unfold s_Ways_reaching
    rw [ib_nI (by omega) (by decide), ib_nI (by omega) (by decide), ib_nI (by omega) (by decide), lt_eq, ib_nI (by omega) (by decide), show ix (nI s) = s from nI_clamp (by omega)]
  · rw [bt_and, bt_and, bt_full ⟨c, h2⟩, decide_eq_false (p := c < 50) (by omega), Bool.and_false, Bool.false_and]
  · have V := X.2.2 s (by omega)
    have out : ∀ d, d < 64 → bt v d = true → d < 50 := fun d hd z => by
      rcases Nat.lt_or_ge d 50 with y | y
      · exact y
      · rw [hv d y hd] at z
        cases z
    rw [bt_and, bt_and, bt_or, bt_or, bt_and, bt_and, bt_and, bt_or, bt_or, bt_l10 _ (by omega), bt_r10, bt_l1 _ (by omega), bt_r1, bt_full ⟨c, by omega⟩, canB_bt rg V hc, (V c hc).2.1, (V c hc).2.2.1, (V c hc).2.2.2]
    simp only [Bool.and_eq_true, Bool.or_eq_true, decide_eq_true_eq]
    constructor
    · rintro ⟨⟨z, -⟩, y⟩
      refine ⟨y, ?_⟩
      rcases z with ((⟨⟨-, p⟩, (z | z) | z⟩ | ⟨⟨⟨-, p⟩, q⟩, z⟩) | ⟨⟨⟨-, p⟩, q⟩, z⟩)
      · exact ⟨c, hc, z, 0, by decide, (beh_e rg hs hc).mpr ⟨rfl, p, cv c hc z⟩⟩
      · exact ⟨c - 10, by omega, z.2, 4, by decide, (beh_e rg hs hc).mpr ⟨by show (if c < 10 then none else some (c - 10)) = _; rw [if_neg (by omega)], p, cv _ (by omega) z.2⟩⟩
      · have l := out _ (by omega) z
        exact ⟨10 + c, l, z, 3, by decide, (beh_e rg hs hc).mpr ⟨by show (if c + 10 < 50 then some (c + 10) else none) = _; rw [if_pos (by omega), Nat.add_comm], p, cv _ l z⟩⟩
      · have l := out _ (by omega) z
        exact ⟨1 + c, l, z, 1, by decide, (beh_e rg hs hc).mpr ⟨by show (if c % 10 = 9 then none else some (c + 1)) = _; rw [if_neg q, Nat.add_comm], p, cv _ l z⟩⟩
      · exact ⟨c - 1, by omega, z.2, 2, by decide, (beh_e rg hs hc).mpr ⟨by show (if c % 10 = 0 then none else some (c - 1)) = _; rw [if_neg q], p, cv _ (by omega) z.2⟩⟩
    · rintro ⟨y, d, hd, a1, mv, hm, e⟩
      obtain ⟨b1, b2, b3⟩ := (beh_e rg hs hc).mp e
      have k1 := canB_k rg hc y
      refine ⟨⟨?_, hc⟩, y⟩
      have : mv = 0 ∨ mv = 1 ∨ mv = 2 ∨ mv = 3 ∨ mv = 4 := by omega
      rcases this with rfl | rfl | rfl | rfl | rfl
      · cases b1
        exact Or.inl (Or.inl ⟨⟨k1, b2⟩, Or.inl (Or.inl a1)⟩)
      · have b1 : (if c % 10 = 9 then none else some (c + 1)) = some d := b1
        split at b1
        · cases b1
        · cases b1
          rename_i z
          exact Or.inl (Or.inr ⟨⟨⟨k1, b2⟩, z⟩, by rw [Nat.add_comm]; exact a1⟩)
      · have b1 : (if c % 10 = 0 then none else some (c - 1)) = some d := b1
        split at b1
        · cases b1
        · cases b1
          rename_i z
          exact Or.inr ⟨⟨⟨k1, b2⟩, z⟩, by omega, a1⟩
      · have b1 : (if c + 10 < 50 then some (c + 10) else none) = some d := b1
        split at b1
        · cases b1
          exact Or.inl (Or.inl ⟨⟨k1, b2⟩, Or.inr (by rw [Nat.add_comm]; exact a1)⟩)
        · cases b1
      · have b1 : (if c < 10 then none else some (c - 10)) = some d := b1
        split at b1
        · cases b1
        · cases b1
          exact Or.inl (Or.inl ⟨⟨k1, b2⟩, Or.inl (Or.inr ⟨by omega, a1⟩)⟩)
