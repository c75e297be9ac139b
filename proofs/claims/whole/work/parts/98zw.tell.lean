/-! the law: what its clauses tell -/
def tn (cls : Nat → Nat × ((Nat → Int32) → Option Int32)) (g : Nat) (w : Nat → Int32) : Nat → Option Int32
  | 0 => none
  | i + 1 => if (cls i).1 = g then (match (cls i).2 w with
    | some v => some v
    | none => tn cls g w i) else tn cls g w i
def CLF (y : Nat → Nat) (n N : Nat) (c cb : Nat → Int32) (s : Nat) (cls : Nat → Nat × ((Nat → Int32) → Option Int32)) (kk : Nat → Nat) (i : Nat) : Prop := ∃ fr se te, cb (4 * i) = nI (cls i).1 ∧ cb (4 * i + 1) = nI fr ∧ cb (4 * i + 2) = nI se ∧ cb (4 * i + 3) = nI te ∧ fr ≤ se ∧ se ≤ te ∧ te ≤ s ∧ (cls i).1 < 2 ∧ tC y n (kk i) = (cls i).1 + 1 ∧ kk i < N ∧ kk i < kk (i + 1) ∧ kk (i + 1) ≤ N + 1 ∧ CLB y n N c fr se te (kk i) (kk (i + 1) - 1) (cls i).2
theorem p_works {D : (Nat → Int32) → Option Int32} {c : Nat → Int32} {p q a : Nat} {h : Hp} (H : EvC D c p q 0) (C : CDh c p q a q h) : ∃ h2, s_Teller_worksOut a (nI p) (nI q) h = some (if (D (wf (hI h 52))).isSome then 1 else 0, h2) ∧ eqO s53 h h2 ∧ ∀ v, D (wf (hI h 52)) = some v → hI h2 53 0 = v := by
  obtain ⟨h2, a1, a2, a3⟩ := H h a q 0 C (Nat.le_refl _)
  have q4 : q ≤ 400 := C.2.2.2.1
  have e0 : s_Teller_worksOut a (nI p) (nI q) h = WLP a q (nI 0 - 1) p h := by
    rw [show nI 0 - 1 = (-1 : Int32) by decide]
    rfl
  cases e : D (wf (hI h 52)) with
  | none =>
    rw [e] at a3
    exact ⟨h2, e0.trans a3, a1, fun v z => by cases z⟩
  | some v =>
    rw [e] at a3
    obtain ⟨b1, b2⟩ := a3
    refine ⟨h2, e0.trans (b1.trans (WLP_end ?_)), a1, fun u z => by cases z; exact b2⟩
    unfold s_Teller_worksOut_6 s_Teller_worksOut_207
    rw [if_pos (Int32.le_refl _), if_pos (show nI 0 = 0 from rfl), bz_1]
    rfl
theorem s53_Tl (j : Nat) (h : sTl j = false) : s53 j = false := by
  unfold sTl at h
  rw [Bool.or_eq_false_iff] at h
  exact h.2
theorem p_tellC {y : Nat → Nat} {n N M na r a b g : Nat} {ca cb : Nat → Int32} {cls : Nat → Nat × ((Nat → Int32) → Option Int32)} {kk : Nat → Nat} {h : Hp} (F : ∀ i, i < M → CLF y n N ca cb na cls kk i) (hM : M ≤ 12) (nr : nd h r 101 2) (r0 : rf h r 0 = some a) (ha : NS ≤ a) (hb : NS ≤ b) (n1 : nd h a 0 na) (n2 : nd h b 0 (4 * M)) (na4 : na ≤ 400) (e1 : hI h a = ca) (e2 : hI h b = cb) (hg : g < 2) : ∀ (i : Nat) (h1 : Hp), i ≤ M → eqO s53 h h1 → ∃ h2, lp (fun q : Nat × Int32 × Nat × Int32 × Hp => s_Teller_tellsBy_11 q.1 q.2.1 q.2.2.1 q.2.2.2.1 q.2.2.2.2) (r, nI g, b, nI (4 * i) - 4, h1) = some (if (tn cls g (wf (hI h 52)) i).isSome then 1 else 0, h2) ∧ eqO sTl h h2 ∧ ∀ v, tn cls g (wf (hI h 52)) i = some v → hI h2 51 2 = v
  | 0, h1, _, E => by
    refine ⟨h1, lp_inr ?_, eqO_mono E s53_Tl, fun v z => by cases z⟩
    show s_Teller_tellsBy_11 r (nI g) b (nI (4 * 0) - 4) h1 = _
    unfold s_Teller_tellsBy_11
    rw [if_pos (show nI (4 * 0) - 4 < 0 by decide)]
    rfl
  | i + 1, h1, hi, E => by
    have ih := p_tellC F hM nr r0 ha hb n1 n2 na4 e1 e2 hg i
    obtain ⟨fr, se, te, c1, c2, c3, c4, c5, c6, c7, c8, c9, c10, c11, c12, D, j, D1, D2, D3, D4⟩ := F i (by omega)
    have a114 : 114 ≤ a := ha
    have b114 : 114 ≤ b := hb
    have sa : s53 a = false := decide_eq_false (by omega)
    have sb : s53 b = false := decide_eq_false (by omega)
    have ev : nI (4 * (i + 1)) - 4 = nI (4 * i) := by rw [show (4 : Int32) = nI 4 from rfl, nI_sub (by omega)]; congr 1
    have gen : ∀ h3 : Hp, eqO s53 h h3 → nd h3 b 0 (4 * M) ∧ nd h3 r 101 2 ∧ rf h3 r 0 = some a ∧ hI h3 b = cb ∧ hI h3 52 = hI h 52 ∧ ∀ p q, p ≤ q → q ≤ na → CDh ca p q a q h3 := fun h3 E3 => ⟨nd_eq E3.1 n2, nd_eq E3.1 nr, by rw [rf_of E3.1]; exact r0, by rw [(E3.2 b sb).1]; exact e2, (E3.2 52 (by decide)).1, fun p q h5 h6 => ⟨ha, ⟨na, nd_eq E3.1 n1, h6, na4⟩, Nat.le_refl _, by omega, fun i _ _ => by rw [(E3.2 a sa).1, e1]⟩⟩
    have e117 : ∀ h3, s_Teller_tellsBy_117 r (nI g) b (nI (4 * i)) h3 = some (.inl (r, nI g, b, nI (4 * i) - 4, h3)) := fun h3 => by
      unfold s_Teller_tellsBy_117
      rw [show nI (4 * i) + (-4 : Int32) = nI (4 * i) - 4 from (Int32.sub_eq_add_neg _ _).symm]
    -- not this clause
    have no : ∀ h3, eqO s53 h h3 → s_Teller_tellsBy_11 r (nI g) b (nI (4 * i)) h1 = some (.inl (r, nI g, b, nI (4 * i) - 4, h3)) → tn cls g (wf (hI h 52)) (i + 1) = tn cls g (wf (hI h 52)) i → ∃ h2, lp (fun q : Nat × Int32 × Nat × Int32 × Hp => s_Teller_tellsBy_11 q.1 q.2.1 q.2.2.1 q.2.2.2.1 q.2.2.2.2) (r, nI g, b, nI (4 * (i + 1)) - 4, h1) = some (if (tn cls g (wf (hI h 52)) (i + 1)).isSome then 1 else 0, h2) ∧ eqO sTl h h2 ∧ ∀ v, tn cls g (wf (hI h 52)) (i + 1) = some v → hI h2 51 2 = v := fun h3 E3 s1 et => by
      rw [ev, lp_inl (f := fun q : Nat × Int32 × Nat × Int32 × Hp => s_Teller_tellsBy_11 q.1 q.2.1 q.2.2.1 q.2.2.2.1 q.2.2.2.2) (s := (r, nI g, b, nI (4 * i), h1)) s1, et]
      exact ih h3 (by omega) E3
    obtain ⟨g1, g2, g3, g4, g5, g6⟩ := gen h1 E
    have start : s_Teller_tellsBy_11 r (nI g) b (nI (4 * i)) h1 = if (cls i).1 = g then (if te = se then s_Teller_tellsBy_74 r (nI g) b (nI (4 * i)) (nI se) h1 else (s_Teller_worksOut a (nI se) (nI te) h1).bind fun u6 => if u6.1 = 0 then s_Teller_tellsBy_78 r (nI g) b (nI (4 * i)) (nI se) u6.2 else if hI u6.2 53 0 = 0 then s_Teller_tellsBy_78 r (nI g) b (nI (4 * i)) (nI se) u6.2 else s_Teller_tellsBy_74 r (nI g) b (nI (4 * i)) (nI se) u6.2) else s_Teller_tellsBy_117 r (nI g) b (nI (4 * i)) h1 := by
      unfold s_Teller_tellsBy_11
      rw [if_neg (by rw [Int32.not_lt]; exact nI_le (a := 0) (Nat.zero_le _) (by omega)), ak_some g1, ln_of g1, ib_nI (by omega) (by omega), show ix (nI (4 * i)) = 4 * i from nI_clamp (by omega), g4, c1, show (2 : Int32) = nI 2 from rfl, show (3 : Int32) = nI 3 from rfl, nI_add, nI_add, show ix (nI (4 * i + 2)) = 4 * i + 2 from nI_clamp (by omega), show ix (nI (4 * i + 3)) = 4 * i + 3 from nI_clamp (by omega), c3, c4]
      by_cases z : (cls i).1 = g
      · rw [if_pos (by rw [z]), if_pos z, ak_some g1, ib_nI (by omega) (by omega), ak_some g1, ib_nI (by omega) (by omega)]
        by_cases w : te = se
        · rw [if_pos (by rw [w]), if_pos w]
        · rw [if_neg (by rw [nI_eq (by omega) (by omega)]; exact w), if_neg w, ak_some g2, g3, nn_some]
          congr 1
      · rw [if_neg (by rw [nI_eq (by omega) (by omega)]; exact z), if_neg z]
    -- the sum, once the test holds
    have sum : ∀ h3, eqO s53 h h3 → ∃ h4, s_Teller_tellsBy_74 r (nI g) b (nI (4 * i)) (nI se) h3 = (match D (wf (hI h 52)) with
        | some v => some (.inr (1, sI h4 51 2 v))
        | none => some (.inl (r, nI g, b, nI (4 * i) - 4, h4))) ∧ eqO s53 h h4 := fun h3 E3 => by
      obtain ⟨k1, k2, k3, k4, k5, k6⟩ := gen h3 E3
      obtain ⟨h4, w1, w2, w3⟩ := p_works D1 (k6 fr se c5 (by omega))
      rw [k5] at w1 w3
      refine ⟨h4, ?_, eqO_trans E3 w2⟩
      unfold s_Teller_tellsBy_74 s_Teller_tellsBy_79
      rw [if_neg i10, ak_some k2, k3, nn_some, ak_some k1, ln_of k1, nI_1, ib_nI (by omega) (by omega), show ix (nI (4 * i + 1)) = 4 * i + 1 from nI_clamp (by omega), k4, c2, w1, Option.bind_some]
      cases eD : D (wf (hI h 52)) with
      | none =>
        rw [if_pos (by rfl)]
        exact e117 h4
      | some v =>
        rw [if_neg (show ¬ ((if (some v : Option Int32).isSome = true then (1 : Int32) else 0), h4).1 = 0 from i10), ib_some _ (by decide) (by decide)]
        show some (Sum.inr (1, sI h4 51 2 (hI h4 53 0))) = _
        rw [w3 v eD]
    have e78 : ∀ h3, s_Teller_tellsBy_78 r (nI g) b (nI (4 * i)) (nI se) h3 = some (.inl (r, nI g, b, nI (4 * i) - 4, h3)) := fun h3 => by
      unfold s_Teller_tellsBy_78 s_Teller_tellsBy_79
      rw [if_pos rfl]
      exact e117 h3
    -- the sum's end
    have fin : ∀ h3, eqO s53 h h3 → s_Teller_tellsBy_11 r (nI g) b (nI (4 * i)) h1 = s_Teller_tellsBy_74 r (nI g) b (nI (4 * i)) (nI se) h3 → tn cls g (wf (hI h 52)) (i + 1) = (match D (wf (hI h 52)) with
        | some v => some v
        | none => tn cls g (wf (hI h 52)) i) → ∃ h2, lp (fun q : Nat × Int32 × Nat × Int32 × Hp => s_Teller_tellsBy_11 q.1 q.2.1 q.2.2.1 q.2.2.2.1 q.2.2.2.2) (r, nI g, b, nI (4 * (i + 1)) - 4, h1) = some (if (tn cls g (wf (hI h 52)) (i + 1)).isSome then 1 else 0, h2) ∧ eqO sTl h h2 ∧ ∀ v, tn cls g (wf (hI h 52)) (i + 1) = some v → hI h2 51 2 = v := fun h3 E3 s1 et => by
      obtain ⟨h4, w1, w2⟩ := sum h3 E3
      rw [w1] at s1
      cases eD : D (wf (hI h 52)) with
      | none =>
        rw [eD] at s1 et
        exact no h4 w2 s1 et
      | some v =>
        rw [eD] at s1 et
        refine ⟨sI h4 51 2 v, ?_, eqO_sI (eqO_mono w2 s53_Tl) (by decide), fun u z => ?_⟩
        · rw [ev, et]
          exact lp_inr s1
        · rw [et] at z
          cases z
          rw [hI_sI', if_pos ⟨rfl, rfl⟩]
    by_cases z : (cls i).1 = g
    · have et : tn cls g (wf (hI h 52)) (i + 1) = (match (cls i).2 (wf (hI h 52)) with
          | some v => some v
          | none => tn cls g (wf (hI h 52)) i) := by rw [tn, if_pos z]
      rw [if_pos z] at start
      rcases D4 with ⟨d1, d2, d3, d4⟩ | ⟨d1, d2, B, b1, b2, b3⟩
      · rw [if_pos d1] at start
        rw [d4] at et
        exact fin h1 E start et
      · rw [if_neg (show ¬ te = se by omega)] at start
        obtain ⟨h3, w1, w2, w3⟩ := p_works b1 (g6 se te c6 c7)
        rw [g5] at w1 w3
        rw [w1, Option.bind_some] at start
        have E3 := eqO_trans E w2
        rw [b3] at et
        unfold tst at et
        cases eB : B (wf (hI h 52)) with
        | none =>
          rw [eB] at start et
          exact no h3 E3 (start.trans (e78 h3)) et
        | some v =>
          rw [eB] at start et
          have w4 : hI h3 53 0 = b01 v := w3 (b01 v) (by rw [eB]; rfl)
          have start : s_Teller_tellsBy_11 r (nI g) b (nI (4 * i)) h1 = if hI h3 53 0 = 0 then s_Teller_tellsBy_78 r (nI g) b (nI (4 * i)) (nI se) h3 else s_Teller_tellsBy_74 r (nI g) b (nI (4 * i)) (nI se) h3 := start
          rw [w4] at start
          cases v
          · rw [if_pos (show b01 false = 0 from rfl)] at start
            exact no h3 E3 (start.trans (e78 h3)) et
          · rw [if_neg (show ¬ b01 true = 0 from i10)] at start
            exact fin h3 E3 start et
    · rw [if_neg z] at start
      exact no h1 E (start.trans (e117 h1)) (by rw [tn, if_neg z])
