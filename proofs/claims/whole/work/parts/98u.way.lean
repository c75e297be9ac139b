/-! ways: way, the class's -/
def wlB (T : TF) (K : Nat → Int32) (b t u : Nat) : Nat → Nat → Bool
  | 0, c => decide (c = t)
  | j + 1, c => gB T K b (u - (j + 1)) c (wlB T K b t u j) 5 && canB T K b c (10 * (u - (j + 1)))
def nxt (T : TF) (K : Nat → Int32) (b s c : Nat) (L : Nat → Bool) : Nat := match snF (fun d => edB T K b s c d && L d) 50 0 with
  | some d => d
  | none => c
def wcl (T : TF) (K : Nat → Int32) (b s0 a t u : Nat) : Nat → Nat
  | 0 => a
  | i + 1 => nxt T K b (s0 + i) (wcl T K b s0 a t u i) (wlB T K b t u (u - (s0 + i + 1)))
theorem nxt_lt {T : TF} {K : Nat → Int32} {b s c : Nat} {L : Nat → Bool} (hc : c < 50) : nxt T K b s c L < 50 := by
  unfold nxt
  cases e : snF (fun d => edB T K b s c d && L d) 50 0 with
  | none => exact hc
  | some d => exact (snF_b 50 0 d e).2.1
theorem snF_skip {P : Nat → Bool} : ∀ (d s r : Nat), (∀ i, s ≤ i → i < s + d → P i = false) → snF P (r + d) s = snF P r (s + d)
  | 0, _, _, _ => rfl
  | d + 1, s, r, h => by
    rw [show r + (d + 1) = (r + d) + 1 by omega, snF, h s (Nat.le_refl _) (by omega), if_neg (by decide), snF_skip d (s + 1) r (fun i h1 h2 => h i (by omega) (by omega)), show s + 1 + d = s + (d + 1) by omega]
theorem snF_congr {P Q : Nat → Bool} : ∀ (r s : Nat), (∀ i, s ≤ i → i < s + r → P i = Q i) → snF P r s = snF Q r s
  | 0, _, _ => rfl
  | r + 1, s, h => by rw [snF, snF, h s (Nat.le_refl _) (by omega), snF_congr r (s + 1) (fun i h1 h2 => h i (by omega) (by omega))]
theorem p_lowest {v : Int64} {c : Nat} (hc : c < 50) (h : Hp) (lo : ∀ d, d < c - 10 → bt v d = false) : s_Ways_lowest v (nI c) h = some (nI (match snF (bt v) 50 0 with
    | some d => d
    | none => c)) := by
  have loop : ∀ (q d : Nat), d + q = 50 → lp (fun q : Int64 × Int32 × Int32 => s_Ways_lowest_9 q.1 q.2.1 q.2.2 h) (v, nI c, nI d) = some (nI (match snF (bt v) q d with
    | some d => d
    | none => c)) := by
    intro q
    induction q with
    | zero =>
      intro d hd
      refine lp_inr ?_
      show s_Ways_lowest_9 v (nI c) (nI d) h = _
      unfold s_Ways_lowest_9
      rw [if_pos (by rw [show (50 : Int32) = nI 50 from rfl, nI_leI (by decide) (by omega)]; omega)]
      rfl
    | succ q ih =>
      intro d hd
      have e9 : s_Ways_lowest_9 v (nI c) (nI d) h = if bt v d then some (.inr (nI d)) else some (.inl (v, nI c, nI (d + 1))) := by
        unfold s_Ways_lowest_9
        rw [if_neg (by rw [show (50 : Int32) = nI 50 from rfl, nI_leI (by decide) (by omega)]; omega), p_has v (by omega), Option.bind_some, nI_1]
        cases bt v d
        · rw [if_pos (show (if false = true then (1 : Int32) else 0) = 0 by decide), if_neg (show ¬ false = true by decide)]
        · rw [if_neg (show ¬ (if true = true then (1 : Int32) else 0) = 0 by decide), if_pos rfl]
      rw [snF]
      cases e : bt v d
      · rw [e, if_neg (show ¬ false = true by decide)] at e9
        rw [lp_inl e9, if_neg (show ¬ false = true by decide)]
        exact ih (d + 1) (by omega)
      · rw [e, if_pos rfl] at e9
        rw [lp_inr e9, if_pos rfl]
  unfold s_Ways_lowest
  rw [lt_eq]
  have e0 : z_max 0 (nI c - 10) = nI (c - 10) := by
    have : ∀ c : Fin 50, z_max 0 (nI c.1 - 10) = nI (c.1 - 10) := by decide +kernel
    exact this ⟨c, hc⟩
  rw [e0, loop (50 - (c - 10)) (c - 10) (by omega)]
  have := snF_skip (P := bt v) (c - 10) 0 (50 - (c - 10)) (fun i _ h2 => lo i (by omega))
  rw [show 50 - (c - 10) + (c - 10) = 50 by omega, Nat.zero_add] at this
  rw [this]
theorem WX_66 {τ : Nat → TF} {K : Nat → Int32} {b : Nat} {h g : Hp} (X : WX τ K b h) (E : eqO (fun j => decide (j = 66)) h g) : WX τ K b g := by
  obtain ⟨x1, x2, x3⟩ := X
  have f : ∀ j, j ≠ 66 → hI g j = hI h j ∧ hL g j = hL h j := fun j hj => E.2 j (decide_eq_false hj)
  refine ⟨TX_wy x1 (eqO_mono E (fun j hj => decide_eq_false (by have := sWy_of hj; omega))) ?_, ?_, fun s hs => ?_⟩
  · have c := x1.1.1.2.2.2.1.2.2.2.2.2.2.1
    unfold C58; rw [(f 58 (by decide)).1, (f 59 (by decide)).1, (f 60 (by decide)).1]; exact c
  · unfold SWf; rw [(f 59 (by decide)).1, (f 60 (by decide)).1]; exact x2
  · have := x3 s hs
    unfold SVs at this ⊢
    rw [(f 62 (by decide)).2, (f 63 (by decide)).2, (f 64 (by decide)).2, (f 65 (by decide)).2]
    exact this
