/-! agree, tells: the calls -/
def fdR (F : Nat → Int32) (K : Nat → Int32) (q : Nat) (D : Nat → Nat → Bool) : Prop := (∀ x y, ¬ ipD K q D x y) ∨ ∃ a b c d e, prD K q D a b c d e ∧ F 40 = nI (10 * a) ∧ F 41 = nI (10 * b) ∧ F 42 = nI (10 * c) ∧ F 43 = nI (10 * d) ∧ F 44 = nI (10 * e)
def RGg (K : Nat → Int32) (q : Nat) (bt : Option Nat) (D : Nat → Nat → Bool) (g : Hp) : Prop := hI g 84 39 = nI (ctQ K q bt D) ∧ (bt = none → fdR (hI g 84) (mk pD K) q D)
theorem ctQ_b {K : Nat → Int32} {q : Nat} {bt : Option Nat} {D : Nat → Nat → Bool} (h : npH (mk pD K) q ≤ 200) : ctQ K q bt D ≤ 10200 := by
  unfold ctQ
  have h1 : ∀ b, smN (fun a => if D a b = true ∧ QB K q bt a b (ix (mk pD K 188)) = true then 1 else 0) 51 ≤ 51 := fun b => smN_b (fun a => by split <;> omega) 51
  have : ∀ n, smN (fun b => smN (fun a => if D a b = true ∧ QB K q bt a b (ix (mk pD K 188)) = true then 1 else 0) 51) n ≤ 51 * n := by
    intro n
    induction n with
    | zero => exact Nat.le_refl _
    | succ n ih =>
      unfold smN
      have := h1 n
      have e : (fun b => smN (fun a => if D a b = true ∧ QB K q bt a b (ix (mk pD K 188)) = true then 1 else 0) 51) n = smN (fun a => if D a n = true ∧ QB K q bt a n (ix (mk pD K 188)) = true then 1 else 0) 51 := rfl
      omega
  have := this (npH (mk pD K) q)
  omega
def agF (k : Nat) : Bool := !(decide (39 ≤ k) && decide (k ≤ 44))
theorem agF_no {k : Nat} (h : k < 39 ∨ 44 < k) : agF k = true := by
  unfold agF
  rcases h with h | h
  · rw [decide_eq_false (p := 39 ≤ k) (by omega)]; rfl
  · rw [decide_eq_false (p := k ≤ 44) (by omega), Bool.and_false]; rfl
theorem agF_of {k : Nat} (h : agF k = true) : k < 39 ∨ 44 < k := by
  unfold agF at h
  simp only [Bool.not_eq_true', Bool.and_eq_false_iff, decide_eq_false_iff_not] at h
  omega
def sAg (j : Nat) : Bool := decide (j = 84) || decide (j = 108)
/-- what the reference's weighing counts on -/
def RF (τ : Nat → TF) (K : Nat → Int32) (q : Nat) (h : Hp) : Prop := RX τ K h ∧ ∀ f, f < ix (K 188) → hI h 108 f = flR (mk pD K) q f
theorem RF_84 {τ : Nat → TF} {K : Nat → Int32} {q : Nat} {h g : Hp} (X : RF τ K q h) (E : eqO sAs h g) : RF τ K q g := ⟨RX_eq X.1 (E.2 86 (by decide)).1, by rw [(E.2 108 (by decide)).1]; exact X.2⟩
theorem RGg_step {τ : Nat → TF} {K : Nat → Int32} {q x y : Nat} {bt : Option Nat} {g : Hp} {D D2 : Nat → Nat → Bool} (X : RF τ K q g) (hq : q < 4) (hbt : ∀ f, bt = some f → f < 12) (hnp : npH (mk pD K) q ≤ 200) (hD : ∀ a b, D2 a b = true ↔ (D a b = true ∨ (a = x ∧ b = y))) (hno : D x y = false) (hx : x < 51) (hy : y < npH (mk pD K) q) (hx2 : ∀ u v, D u v = true → u ≤ x) (hy2 : ∀ v, D x v = true → v ≤ y) (S : RGg K q bt D g) :
    ∃ g2, lp (fun q : Int32 × Int32 × Int32 × Int32 × Int32 × Int32 × Hp => s_Mod_agrees_127 q.1 q.2.1 q.2.2.1 q.2.2.2.1 q.2.2.2.2.1 q.2.2.2.2.2.1 q.2.2.2.2.2.2) (oI bt, K (7 + 3 * q), nI (10 * x), nI (10 * y), 1, 0, g) = some (.inl (oI bt, K (7 + 3 * q), nI (10 * x), nI (10 * y) + 10, g2)) ∧ eqO sAs g g2 ∧ m84 agF g g2 ∧ RGg K q bt D2 g2 := by
  have rg := X.1.2.1
  obtain ⟨k, hk, ek, ik⟩ := Rg_fl rg
  have ik' : ix (mk pD K 188) = k := by rw [kd_eq' (j := 188) (Or.inr (Or.inr rfl))]; exact ik
  have per0 : ¬ K (7 + 3 * q) = 0 := by
    have := Rg_per0 rg 0 q (by decide) hq
    rwa [Nat.mul_zero, Nat.add_zero] at this
  have t8 : s_Mod_term 8 g = some (mk pF K 38) := p_termK X.1 (k := 8) (by decide)
  have st1 := ctQ_step (K := K) (q := q) (bt := bt) hD hno hx hy
  rw [ik'] at st1
  have cb := ctQ_b (K := K) (q := q) (bt := bt) (D := D) hnp
  -- the end
  have fin : ∀ u : Bool, u = QB K q bt x y k → ∃ g2, s_Mod_agrees_205 (oI bt) (K (7 + 3 * q)) (nI (10 * x)) (nI (10 * y)) (if u then 1 else 0) g = some (.inl (oI bt, K (7 + 3 * q), nI (10 * x), nI (10 * y) + 10, g2)) ∧ eqO sAs g g2 ∧ m84 agF g g2 ∧ RGg K q bt D2 g2 := by
    intro u hu
    cases u with
    | false =>
      refine ⟨g, rfl, eqO_refl _ _, m84_refl _ _, ?_, fun hb => ?_⟩
      · rw [st1, ← hu, if_neg (by decide), Nat.add_zero]; exact S.1
      · subst hb
        have nip : ¬ isP (mk pD K) q x y := fun w => by
          have := QB_none.mpr w.2.2
          rw [ik', ← hu] at this
          cases this
        have e : ∀ a b, ipD (mk pD K) q D2 a b ↔ ipD (mk pD K) q D a b := fun a b => by
          unfold ipD
          rw [hD]
          constructor
          · rintro ⟨p, d | ⟨rfl, rfl⟩⟩
            · exact ⟨p, d⟩
            · exact absurd p nip
          · rintro ⟨p, d⟩
            exact ⟨p, Or.inl d⟩
        rcases S.2 rfl with h1 | ⟨a, b, c, d, e1, ⟨p1, p2, p3, ⟨y1, p4⟩, ⟨x1, p5⟩, x2, p6⟩, h2⟩
        · exact Or.inl (fun a b z => h1 a b ((e a b).mp z))
        · exact Or.inr ⟨a, b, c, d, e1, ⟨(e _ _).mpr p1, fun x y z => p2 x y ((e _ _).mp z), fun y z => p3 y ((e _ _).mp z), ⟨y1, (e _ _).mpr p4⟩, ⟨x1, (e _ _).mpr p5⟩, x2, (e _ _).mpr p6⟩, h2⟩
    | true =>
      obtain ⟨g2, a1, a2, a3⟩ := p_205 (v2 := oI bt) (v3 := K (7 + 3 * q)) (g := g) (x := x) (y := y)
      refine ⟨g2, a1, a2, fun k hk => ?_, ?_, fun hb => ?_⟩
      · have := agF_of hk
        rw [a3]
        unfold kpR
        rw [if_neg (by omega), if_neg (by omega), if_neg (by omega), if_neg (by omega), if_neg (by omega), if_neg (by omega)]
      · rw [a3, st1, ← hu, if_pos rfl, ← nI_1, ← S.1]; rfl
      · subst hb
        have ip : isP (mk pD K) q x y := ⟨hx, hy, QB_none.mp (by rw [ik', ← hu])⟩
        obtain ⟨xb, yb⟩ := isP_b ip hnp
        rcases S.2 rfl with h1 | ⟨a, b, c, d, e, pr, f40, f41, f42, f43, f44⟩
        · have c0 : hI g 84 39 = 0 := by rw [S.1, ctQ_none, pcs_0.mpr h1]; rfl
          refine Or.inr ⟨x, x, y, y, y, keep_new hD ip h1, ?_, ?_, ?_, ?_, ?_⟩
          · rw [a3]; show (if hI g 84 39 = 0 then nI (10 * x) else _) = _
            rw [if_pos c0]
          · rw [a3]; rfl
          · rw [a3]; show (if (if hI g 84 39 = 0 then nI (10 * y) else hI g 84 42) ≤ nI (10 * y) then (if hI g 84 39 = 0 then nI (10 * y) else hI g 84 42) else nI (10 * y)) = _
            rw [if_pos c0, if_pos (Int32.le_refl _)]
          · rw [a3]; show (if nI (10 * y) ≤ (if hI g 84 39 = 0 then nI (10 * y) else hI g 84 43) then (if hI g 84 39 = 0 then nI (10 * y) else hI g 84 43) else nI (10 * y)) = _
            rw [if_pos c0, if_pos (Int32.le_refl _)]
          · rw [a3]; show (if hI g 84 39 = 0 then nI (10 * y) else _) = _
            rw [if_pos c0]
        · have c0 : ¬ hI g 84 39 = 0 := by
            rw [S.1, ctQ_none]
            intro z
            have : pcs (mk pD K) q [] D = 0 := by
              rw [ctQ_none] at cb
              exact (nI_eq (b := 0) (by omega) (by decide)).mp z
            exact pcs_0.mp this a e pr.1
          obtain ⟨x1, p5⟩ := pr.2.2.2.2.1
          obtain ⟨x2, p6⟩ := pr.2.2.2.2.2
          have cb2 := (isP_b p5.1 hnp).2
          have db2 := (isP_b p6.1 hnp).2
          refine Or.inr ⟨_, _, _, _, _, keepH_pr hD ip hx2 hy2 pr, ?_, ?_, ?_, ?_, ?_⟩
          · rw [a3]; show (if hI g 84 39 = 0 then nI (10 * x) else hI g 84 40) = _
            rw [if_neg c0]; exact f40
          · rw [a3]; rfl
          · rw [a3]; show (if (if hI g 84 39 = 0 then nI (10 * y) else hI g 84 42) ≤ nI (10 * y) then (if hI g 84 39 = 0 then nI (10 * y) else hI g 84 42) else nI (10 * y)) = _
            rw [if_neg c0, f42]
            by_cases z : c ≤ y
            · rw [if_pos (by rw [nI_leI (by omega) (by omega)]; omega), if_pos z]
            · rw [if_neg (by rw [nI_leI (by omega) (by omega)]; omega), if_neg z]
          · rw [a3]; show (if nI (10 * y) ≤ (if hI g 84 39 = 0 then nI (10 * y) else hI g 84 43) then (if hI g 84 39 = 0 then nI (10 * y) else hI g 84 43) else nI (10 * y)) = _
            rw [if_neg c0, f43]
            by_cases z : y ≤ d
            · rw [if_pos (by rw [nI_leI (by omega) (by omega)]; omega), if_pos z]
            · rw [if_neg (by rw [nI_leI (by omega) (by omega)]; omega), if_neg z]
          · rw [a3]; show (if hI g 84 39 = 0 then nI (10 * y) else hI g 84 44) = _
            rw [if_neg c0]; exact f44
  have qbF : ∀ d i, QB K q bt x y i = false → QB K q bt x y (i + d) = false := by
    intro d
    induction d with
    | zero => intro i h; exact h
    | succ d ih =>
      intro i h
      rw [← Nat.add_assoc, QB_s, ih i h]
      rfl
  have key : ∀ (d i : Nat) (u : Bool), i + d = k → u = QB K q bt x y i → ∃ g2, lp (fun q : Int32 × Int32 × Int32 × Int32 × Int32 × Int32 × Hp => s_Mod_agrees_127 q.1 q.2.1 q.2.2.1 q.2.2.2.1 q.2.2.2.2.1 q.2.2.2.2.2.1 q.2.2.2.2.2.2) (oI bt, K (7 + 3 * q), nI (10 * x), nI (10 * y), (if u then 1 else 0), nI i, g) = some (.inl (oI bt, K (7 + 3 * q), nI (10 * x), nI (10 * y) + 10, g2)) ∧ eqO sAs g g2 ∧ m84 agF g g2 ∧ RGg K q bt D2 g2 := by
    intro d
    induction d with
    | zero =>
      intro i u hi hu
      have hi : i = k := by omega
      obtain ⟨g2, a1, a2⟩ := fin u (by rw [hu, hi])
      refine ⟨g2, lp_inr ?_, a2⟩
      show s_Mod_agrees_127 (oI bt) (K (7 + 3 * q)) (nI (10 * x)) (nI (10 * y)) (if u then 1 else 0) (nI i) g = _
      unfold s_Mod_agrees_127
      rw [ib_some _ (by decide) (by decide), show ix 188 = 188 by decide, X.1.1, ek, hi, if_pos (Int32.le_refl _), a1]
      rfl
    | succ d ih =>
      intro i u hi hu
      cases u with
      | false =>
        have hk2 : false = QB K q bt x y k := by
          have := qbF (k - i) i hu.symm
          rw [show i + (k - i) = k by omega] at this
          exact this.symm
        obtain ⟨g2, a1, a2⟩ := fin false hk2
        refine ⟨g2, lp_inr ?_, a2⟩
        show s_Mod_agrees_127 (oI bt) (K (7 + 3 * q)) (nI (10 * x)) (nI (10 * y)) 0 (nI i) g = _
        unfold s_Mod_agrees_127
        have a1 : s_Mod_agrees_205 (oI bt) (K (7 + 3 * q)) (nI (10 * x)) (nI (10 * y)) 0 g = _ := a1
        rw [ib_some _ (by decide) (by decide), show ix 188 = 188 by decide, X.1.1, ek, if_neg (by rw [nI_leI (by omega) (by omega)]; omega), if_pos rfl, a1]
        rfl
      | true =>
        obtain ⟨m, hm2, em⟩ := Rg_fm rg (show i < 12 by omega)
        obtain ⟨g2, a1, a2⟩ := ih (i + 1) (decide (bt = some i) || !flO (mk pD K) q x y i) (by omega) (by rw [QB_s, ← hu, Bool.true_and])
        refine ⟨g2, ?_, a2⟩
        rw [lp_inl (s' := (oI bt, K (7 + 3 * q), nI (10 * x), nI (10 * y), (if (decide (bt = some i) || !flO (mk pD K) q x y i) then 1 else 0), nI (i + 1), g)) ?_]
        · exact a1
        · show s_Mod_agrees_127 (oI bt) (K (7 + 3 * q)) (nI (10 * x)) (nI (10 * y)) 1 (nI i) g = _
          unfold s_Mod_agrees_127 s_Mod_agrees_192 s_Mod_agrees_197
          rw [ib_some _ (by decide) (by decide), show ix 188 = 188 by decide, X.1.1, ek, if_neg (by rw [nI_leI (by omega) (by omega)]; omega), if_neg (by decide), nI_1]
          by_cases z : bt = some i
          · rw [if_pos (by rw [z]; rfl), decide_eq_true z]
            rfl
          · have nz : ¬ nI i = oI bt := by
              cases bt with
              | none =>
                exact nI_m1 (by omega)
              | some f =>
                intro w
                have fl := hbt f rfl
                have w : nI i = nI f := w
                rw [nI_eq (by omega) (by omega)] at w
                exact z (by rw [w])
            have ei : (161 : Int32) + 2 * nI i = nI (161 + 2 * i) := by rw [show (161 : Int32) = nI 161 from rfl, show (2 : Int32) = nI 2 from rfl, nI_mul, nI_add]
            rw [if_neg nz, ib_nI (by omega) (by decide), ei, ib_nI (by omega) (by decide), show ix (nI (161 + 2 * i)) = 161 + 2 * i from nI_clamp (by omega), show ix (nI i) = i from nI_clamp (by omega), p_moonAt g per0, Option.bind_some, X.2 i (by omega), p_size, Option.bind_some, t8, Option.bind_some, kf_eq (by decide), decide_eq_false z, Bool.false_or, flO_e hq (by omega), szI_sub]
            show (if K 38 < szI (nI (10 * x) * wv (z_rem (K (161 + 2 * i) + nI (10 * y)) (K (7 + 3 * q))) (K (7 + 3 * q)) / 1000 - flR (mk pD K) q i) then _ else _) = _
            by_cases w : K 38 < szI (nI (10 * x) * wv (z_rem (K (161 + 2 * i) + nI (10 * y)) (K (7 + 3 * q))) (K (7 + 3 * q)) / 1000 - flR (mk pD K) q i)
            · rw [if_pos w, decide_eq_true w]; rfl
            · rw [if_neg w, decide_eq_false w]; rfl
  exact key k 0 true (by omega) rfl
