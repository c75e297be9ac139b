/-! ways: latest -/
theorem LX_S {τ : Nat → TF} {K : Nat → Int32} {h g : Hp} {S : Nat → Bool} (X : LX τ K h) (E : eqO S h g) (hS : ∀ j, S j = true → 100 ≤ j ∧ j ≤ 112) : LX τ K g := by
  have no : ∀ j, (j < 100 ∨ 112 < j) → S j = false := fun j hj => by
    cases e : S j
    · rfl
    · have := hS j e
      omega
  obtain ⟨⟨x1, x2, x3⟩, l1, l2⟩ := X
  refine ⟨⟨by rw [(E.2 86 (no 86 (by decide))).1]; exact x1, x2, x3⟩, ?_, ?_⟩
  · rw [(E.2 97 (no 97 (by decide))).1]; exact l1
  · rw [(E.2 99 (no 99 (by decide))).1]; exact l2
def s101 (j : Nat) : Bool := decide (j = 101)
theorem s101_r (j : Nat) (h : s101 j = true) : 100 ≤ j ∧ j ≤ 112 := by
  have : j = 101 := of_decide_eq_true h
  omega
/-- some move of n leads into L -/
def gB (T : TF) (K : Nat → Int32) (b s c : Nat) (L : Nat → Bool) (n : Nat) : Bool := (List.range n).any fun mv => match beh T K b c s mv 0 with
  | some d => L d
  | none => false
theorem gB_5 {T : TF} {K : Nat → Int32} {b s c : Nat} {L : Nat → Bool} (hc : c < 50) : gB T K b s c L 5 = true ↔ ∃ d, d < 50 ∧ L d = true ∧ ed T K b s c d := by
  unfold gB
  rw [List.any_eq_true]
  constructor
  · rintro ⟨mv, h1, h2⟩
    cases e : beh T K b c s mv 0 with
    | none => rw [e] at h2; cases h2
    | some d => rw [e] at h2; exact ⟨d, beh_lt hc e, h2, mv, List.mem_range.mp h1, e⟩
  · rintro ⟨d, h0, h1, mv, h2, e⟩
    exact ⟨mv, List.mem_range.mpr h2, by rw [e]; exact h1⟩
/-- from cell c, j steps before the last step lim, the boat can come to t in time -/
def ltB (T : TF) (K : Nat → Int32) (b t lim : Nat) : Nat → Nat → Bool
  | 0, c => decide (c = t) && canB T K b c (10 * lim)
  | j + 1, c => (decide (c = t) || gB T K b (lim - (j + 1)) c (ltB T K b t lim j) 5) && canB T K b c (10 * (lim - (j + 1)))
theorem ltB_can {T : TF} {K : Nat → Int32} {b t lim : Nat} : ∀ (j c : Nat), ltB T K b t lim j c = true → canB T K b c (10 * (lim - j)) = true
  | 0, c, h => by rw [ltB, Bool.and_eq_true] at h; exact h.2
  | j + 1, c, h => by rw [ltB, Bool.and_eq_true] at h; exact h.2
def laO (T : TF) (K : Nat → Int32) (b a t lim : Nat) : Option Nat := (snF (fun j => ltB T K b t lim j a) (lim + 1) 0).map fun j => lim - j
theorem p_lastC {τ : Nat → TF} {K : Nat → Int32} {b a t lim : Nat} {h : Hp} (X : WX τ K b h) (hl : lim < 144) (ha : a < 50) (ht : t < 50) : s_Ways_lastStart (nI a) (nI t) (nI lim) h = some (oI (laO (tin τ K) K b a t lim)) := by
  have rg := X.1.1.1.2.1
  have loop : ∀ (q j : Nat) (v : Int64), j + q = lim + 1 → 1 ≤ q → hiz v → (∀ c, c < 50 → bt v c = ltB (tin τ K) K b t lim j c) → lp (fun q : Int32 × Int64 × Int64 × Int32 => s_Ways_lastStart_19 q.1 q.2.1 q.2.2.1 q.2.2.2 h) (nI a, z_lshl 1 (nI t), v, nI (lim - j)) = some (oI ((snF (fun j => ltB (tin τ K) K b t lim j a) q j).map fun j => lim - j)) := by
    intro q
    induction q with
    | zero => intro j v hj h1; omega
    | succ q ih =>
      intro j v hj _ hv P
      have e19 : s_Ways_lastStart_19 (nI a) (z_lshl 1 (nI t)) v (nI (lim - j)) h = if bt v a then some (.inr (nI (lim - j))) else if lim - j = 0 then some (.inl (nI a, z_lshl 1 (nI t), 0, nI (lim - j) + -1)) else (s_Ways_reaching v (nI (lim - (j + 1))) h).bind fun u2 => some (.inl (nI a, z_lshl 1 (nI t), u2 ||| (hL h 62 (lim - (j + 1)) &&& z_lshl 1 (nI t)), nI (lim - (j + 1)))) := by
        unfold s_Ways_lastStart_19 s_Ways_lastStart_68
        rw [if_neg (nI_pos (by omega)), p_has v ha, Option.bind_some]
        cases bt v a
        · rw [if_pos (show (if false = true then (1 : Int32) else 0) = 0 by decide), if_neg (show ¬ false = true by decide)]
          by_cases z : lim - j = 0
          · rw [if_pos z, if_pos (by rw [z]; decide)]
          · have e1 : nI (lim - j) - 1 = nI (lim - (j + 1)) := by rw [show (1 : Int32) = nI 1 from rfl, nI_sub (by omega), show lim - j - 1 = lim - (j + 1) by omega]
            rw [if_neg z, if_neg (by rw [show (0 : Int32) = nI 0 from rfl, nI_leI (by omega) (by decide)]; omega), e1, ← Int32.sub_eq_add_neg, e1]
            congr 1
            funext u2
            rw [ib_nI (by omega) (by decide), show ix (nI (lim - (j + 1))) = lim - (j + 1) from nI_clamp (by omega)]
        · rw [if_neg (show ¬ (if true = true then (1 : Int32) else 0) = 0 by decide), if_pos rfl]
      rw [snF, ← P a ha]
      cases hb : bt v a
      · rw [hb, if_neg (show ¬ false = true by decide)] at e19
        rw [if_neg (show ¬ false = true by decide)]
        by_cases z : lim - j = 0
        · rw [if_pos z] at e19
          have q0 : q = 0 := by omega
          rw [lp_inl e19, q0, snF, z]
          refine lp_inr ?_
          show s_Ways_lastStart_19 (nI a) (z_lshl 1 (nI t)) 0 (nI 0 + -1) h = _
          unfold s_Ways_lastStart_19
          rw [if_pos (show nI 0 + -1 < 0 by decide)]
          rfl
        · rw [if_neg z] at e19
          have e10 : 10 * (lim - (j + 1) + 1) = 10 * (lim - j) := by omega
          obtain ⟨r, r1, r2, r3⟩ := p_reaching X (s := lim - (j + 1)) (by omega) hv (fun d hd w => by
            rw [P d hd] at w
            rw [e10]
            exact ltB_can j d w)
          rw [r1, Option.bind_some] at e19
          rw [lp_inl e19]
          refine ih (j + 1) _ (by omega) (by omega) (fun c h1 h2 => by rw [bt_or, r2 c h1 h2, hiz_and (hiz_one ht) c h1 h2]; rfl) (fun c hc => ?_)
          apply Bool.eq_iff_iff.mpr
          rw [bt_or, bt_and, canB_bt rg (X.2.2 (lim - (j + 1)) (by omega)) hc, bt_one ht hc, ltB, Bool.or_eq_true, Bool.and_eq_true, Bool.and_eq_true, Bool.or_eq_true, r3 c hc, gB_5 hc, decide_eq_true_eq, decide_eq_true_eq]
          constructor
          · rintro (⟨z1, d, d1, d2, d3⟩ | ⟨z1, z2⟩)
            · exact ⟨Or.inr ⟨d, d1, by rw [← P d d1]; exact d2, d3⟩, z1⟩
            · exact ⟨Or.inl z2.symm, z1⟩
          · rintro ⟨z1 | ⟨d, d1, d2, d3⟩, z2⟩
            · exact Or.inr ⟨z2, z1.symm⟩
            · exact Or.inl ⟨z2, d, d1, by rw [P d d1]; exact d2, d3⟩
      · rw [hb, if_pos rfl] at e19
        rw [lp_inr e19, if_pos rfl]
        rfl
  unfold s_Ways_lastStart laO
  rw [ib_nI hl (by decide), lt_eq, show ix (nI lim) = lim from nI_clamp (by omega)]
  have := loop (lim + 1) 0 (hL h 62 lim &&& z_lshl 1 (nI t)) (by omega) (by omega) (hiz_and (hiz_one ht)) (fun c hc => by
    rw [bt_and, canB_bt rg (X.2.2 lim hl) hc, bt_one ht hc, ltB, Bool.and_comm]
    congr 1
    exact decide_eq_decide.mpr ⟨fun z => z.symm, fun z => z.symm⟩)
  rw [Nat.sub_zero] at this
  exact this
