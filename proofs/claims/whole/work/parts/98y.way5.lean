/-! ways: way, the reference's way -/
def mnN (T : TF) (K : Nat → Int32) (b s c : Nat) (L : Nat → Bool) : Nat → Nat
  | 0 => 50
  | j + 1 => match beh T K b c s j 0 with
    | some d => if d < mnN T K b s c L j ∧ L d = true then d else mnN T K b s c L j
    | none => mnN T K b s c L j
theorem mnN_le {T : TF} {K : Nat → Int32} {b s c : Nat} {L : Nat → Bool} : ∀ (j mv d : Nat), mv < j → beh T K b c s mv 0 = some d → L d = true → mnN T K b s c L j ≤ d
  | 0, mv, d, h, _, _ => absurd h (by omega)
  | j + 1, mv, d, h, e, hl => by
    rw [mnN]
    by_cases z : mv = j
    · rw [← z, e]
      show (if d < mnN T K b s c L mv ∧ L d = true then d else mnN T K b s c L mv) ≤ d
      by_cases y : d < mnN T K b s c L mv
      · rw [if_pos ⟨y, hl⟩]; exact Nat.le_refl _
      · rw [if_neg (fun w => y w.1)]; omega
    · have ih := mnN_le j mv d (by omega) e hl
      cases beh T K b c s j 0 with
      | none => exact ih
      | some d2 =>
        show (if d2 < mnN T K b s c L j ∧ L d2 = true then d2 else mnN T K b s c L j) ≤ d
        split
        · omega
        · exact ih
theorem mnN_ok {T : TF} {K : Nat → Int32} {b s c : Nat} {L : Nat → Bool} : ∀ j, j ≤ 5 → mnN T K b s c L j = 50 ∨ (L (mnN T K b s c L j) = true ∧ ed T K b s c (mnN T K b s c L j))
  | 0, _ => Or.inl rfl
  | j + 1, hj => by
    have ih := mnN_ok (T := T) (K := K) (b := b) (s := s) (c := c) (L := L) j (by omega)
    rw [mnN]
    cases e : beh T K b c s j 0 with
    | none => exact ih
    | some d =>
      show (if d < mnN T K b s c L j ∧ L d = true then d else mnN T K b s c L j) = 50 ∨ _
      by_cases z : d < mnN T K b s c L j ∧ L d = true
      · have e1 : (match some d with
          | some d => if d < mnN T K b s c L j ∧ L d = true then d else mnN T K b s c L j
          | none => mnN T K b s c L j) = d := if_pos z
        refine Or.inr ?_
        rw [e1]
        exact ⟨z.2, j, by omega, e⟩
      · have e1 : (match some d with
          | some d => if d < mnN T K b s c L j ∧ L d = true then d else mnN T K b s c L j
          | none => mnN T K b s c L j) = mnN T K b s c L j := if_neg z
        rw [if_neg z, e1]
        exact ih
theorem snF_least {P : Nat → Bool} : ∀ (r s x : Nat), snF P r s = some x → ∀ d, s ≤ d → d < x → P d = false
  | 0, _, _, e, _, _, _ => by cases e
  | r + 1, s, x, e, d, h1, h2 => by
    rw [snF] at e
    by_cases z : P s = true
    · rw [if_pos z] at e
      cases e
      omega
    · rw [if_neg z] at e
      by_cases y : d = s
      · rw [y]
        cases hp : P s
        · rfl
        · exact absurd hp z
      · exact snF_least r (s + 1) x e d (by omega) h2
/-- the least of the moves' ends is the first that leads on -/
theorem mnN_nxt {T : TF} {K : Nat → Int32} {b s c : Nat} {L M : Nat → Bool} (hc : c < 50) (key : ∀ d, d < 50 → ed T K b s c d → M d = L d) (h : ∃ d, d < 50 ∧ L d = true ∧ ed T K b s c d) : mnN T K b s c M 5 = nxt T K b s c L := by
  obtain ⟨n1, n2⟩ := nxt_ok h
  have nl := nxt_lt (T := T) (K := K) (b := b) (s := s) (L := L) hc
  obtain ⟨mv, m1, m2⟩ := n2
  have h1 : mnN T K b s c M 5 ≤ nxt T K b s c L := mnN_le 5 mv _ m1 m2 (by rw [key _ nl ⟨mv, m1, m2⟩]; exact n1)
  rcases mnN_ok (T := T) (K := K) (b := b) (s := s) (c := c) (L := M) 5 (Nat.le_refl _) with z | ⟨z1, z2⟩
  · omega
  · have lt5 : mnN T K b s c M 5 < 50 := by omega
    rw [key _ lt5 z2] at z1
    rcases Nat.lt_or_ge (mnN T K b s c M 5) (nxt T K b s c L) with y | y
    · exfalso
      obtain ⟨d, d1, d2, d3⟩ := h
      obtain ⟨x, ex⟩ := snF_some (P := fun d => edB T K b s c d && L d) 50 0 d (by omega) (by omega) (by rw [d2, edB_e.mpr d3]; rfl)
      have en : nxt T K b s c L = x := by unfold nxt; rw [ex]
      have := snF_least 50 0 x ex (mnN T K b s c M 5) (by omega) (by omega)
      rw [z1, edB_e.mpr z2] at this
      cases this
    · omega
theorem p_wa240 {τ : Nat → TF} {K : Nat → Int32} {b m s c : Nat} {g : Hp} {M : Nat → Bool} (X : LX τ K g) (hb : b < 6) (hc : c < 50) (hs : s + 1 < 144) (R : ∀ d, d < 50 → hI g 101 (50 * (s + 1) + d) = b01 (M d)) : ∀ (q j : Nat), j + q = 5 → lp (fun q : Int32 × Int32 × Int32 × Int32 × Int32 × Int32 × Hp => s_Mod_way_240 q.1 q.2.1 q.2.2.1 q.2.2.2.1 q.2.2.2.2.1 q.2.2.2.2.2.1 q.2.2.2.2.2.2) (nI b, nI m, nI c, nI s, nI (mnN (tin τ K) K b s c M j), nI j, g) = some (.inl (nI b, nI m, nI (mnN (tin τ K) K b s c M 5), nI (s + 1), g)) := by
  have mb : ∀ j, mnN (tin τ K) K b s c M j ≤ 50 := fun j => by
    induction j with
    | zero => exact Nat.le_refl _
    | succ j ih =>
      rw [mnN]
      cases beh (tin τ K) K b c s j 0 with
      | none => exact ih
      | some d =>
        show (if d < mnN (tin τ K) K b s c M j ∧ M d = true then d else mnN (tin τ K) K b s c M j) ≤ 50
        split <;> omega
  intro q
  induction q with
  | zero =>
    intro j hj
    have hj : j = 5 := by omega
    subst hj
    refine lp_inr ?_
    show s_Mod_way_240 (nI b) (nI m) (nI c) (nI s) (nI (mnN (tin τ K) K b s c M 5)) (nI 5) g = _
    unfold s_Mod_way_240
    rw [if_pos (show (5 : Int32) ≤ nI 5 by decide), nI_1]
  | succ q ih =>
    intro j hj
    have m50 := mb j
    have e295 : ∀ x : Nat, s_Mod_way_295 (nI b) (nI m) (nI c) (nI s) (nI x) (nI j) g = some (.inl (nI b, nI m, nI c, nI s, nI x, nI (j + 1), g)) := fun x => by
      unfold s_Mod_way_295
      rw [nI_1]
    have stp : s_Mod_way_240 (nI b) (nI m) (nI c) (nI s) (nI (mnN (tin τ K) K b s c M j)) (nI j) g = some (.inl (nI b, nI m, nI c, nI s, nI (mnN (tin τ K) K b s c M (j + 1)), nI (j + 1), g)) := by
      rw [← e295, mnN]
      unfold s_Mod_way_240
      rw [if_neg (by rw [show (5 : Int32) = nI 5 from rfl, nI_leI (by decide) (by omega)]; omega), p_behind X hb hc (by omega) (by omega) (by decide), Option.bind_some]
      cases e : beh (tin τ K) K b c s j 0 with
      | none => rw [if_pos (show oI none = -1 from rfl)]
      | some d =>
        have hd := beh_lt hc e
        show _ = s_Mod_way_295 _ _ _ _ (nI (if d < mnN (tin τ K) K b s c M j ∧ M d = true then d else mnN (tin τ K) K b s c M j)) _ _
        rw [show oI (some d) = nI d from rfl, if_neg (nI_m1 (by omega))]
        by_cases z : d < mnN (tin τ K) K b s c M j
        · rw [if_neg (by rw [nI_leI (by omega) (by omega)]; omega), nI_1, i50, ib_nI (by omega) (by decide), show ix (nI (50 * (s + 1) + d)) = 50 * (s + 1) + d from nI_clamp (by omega), R d hd]
          cases e2 : M d
          · rw [if_pos (show b01 false = 0 by decide), if_neg (fun w => by cases w.2)]
          · rw [if_neg (show ¬ b01 true = 0 by decide), if_pos ⟨z, rfl⟩]
        · rw [if_pos (by rw [nI_leI (by omega) (by omega)]; omega), if_neg (fun w => z w.1)]
    rw [lp_inl stp]
    exact ih (j + 1) (by omega)
