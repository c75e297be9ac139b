/-! the law: what the class's code tells, joined -/
theorem W_bin {op t : Nat} {x : Int32} {a : Nat} {to at_ : Int32} {h : Hp} (ex : x &&& 15 = nI op) (h1 : 2 ≤ op) (h2 : op ≤ 8) (ht : t < 64) : wB x a to (nI (t + 1)) at_ h = (s_Teller_joins (nI op) (nI t) h).bind fun u3 => if u3.1 = 0 then inr (s_Teller_worksOut_103 u3.2) else s_Teller_worksOut_191 a to (nI t) at_ u3.2 := by
  unfold wB
  rw [ex, if_pos (by rw [show (1 : Int32) = nI 1 from rfl, nI_ltI (by decide) (by omega)]; omega), if_neg (by rw [show (8 : Int32) = nI 8 from rfl, nI_ltI (by decide) (by omega)]; omega), if_neg (by rw [show (1 : Int32) = nI 1 from rfl, nI_ltI (by omega) (by decide)]; omega), tp_up]
  have e : nI (t + 1) + (-1 : Int32) = nI t := by rw [← Int32.sub_eq_add_neg]; exact tp_up t
  rw [e]
theorem EvCt_op {D : (Nat → Int32) → Option Int32} {tl : (Nat → Int32) → Int32 → Option Int32} {c : Nat → Int32} {p q1 q op pt pt2 : Nat} (H1 : EvC D c p q1 pt) (e : c q1 = opc (nI op) 0) (o1 : 2 ≤ op) (o2 : op ≤ 5) (H2 : EvCt tl c (q1 + 1) q pt2) (hp : pt ≤ pt2) (hpt : pt ≤ 50) (h1 : p ≤ q1) (h2 : q1 + 1 ≤ q) : EvCt (fun w v => (D w).bind fun u => (jn op v u).bind (tl w)) c p q pt := by
  intro h a to t C ht
  obtain ⟨g, a1, a2, a3⟩ := H1 h a to (t + 1) (CDh_sub C (Nat.le_refl _) (by omega)) (by omega)
  rw [tp_up] at a3
  cases eD : D (wf (hI h 52)) with
  | none =>
    rw [eD] at a3
    exact ⟨g, a1, fun i hi => a2 i (by omega), by show OC ((D (wf (hI h 52))).bind _) _ _ _ _ _ _; rw [eD]; exact a3⟩
  | some u =>
    rw [eD] at a3
    obtain ⟨b1, b2⟩ := a3
    have Cg := CDh_fr C a1
    have et : hI g 53 t = hI h 53 t := a2 t (by omega)
    have stp : s_Teller_worksOut_6 a (nI to) (nI (t + 1)) (nI q1) g = match jn op (hI h 53 t) u with
        | some v => some (.inl (a, nI to, nI t, nI (q1 + 1), sI g 53 t v))
        | none => some (.inr (0, g)) := by
      rw [W_at Cg h1 (by omega), e, W_bin (opc_sgn op (by omega)) o1 (by omega) (by omega), p_joins o1 o2 (by omega), et, b2]
      cases jn op (hI h 53 t) u with
      | none => rfl
      | some v =>
        show (if (1 : Int32) = 0 then inr (s_Teller_worksOut_103 (sI g 53 t v)) else s_Teller_worksOut_191 a (nI to) (nI t) (nI q1) (sI g 53 t v)) = _
        rw [if_neg (by decide)]
        unfold s_Teller_worksOut_191
        rw [nI_1]
    cases ej : jn op (hI h 53 t) u with
    | none =>
      rw [ej] at stp
      refine ⟨g, a1, fun i hi => a2 i (by omega), ?_⟩
      show OC ((D (wf (hI h 52))).bind _) _ _ _ _ _ _
      rw [eD, b1, Option.bind_some, ej]
      exact WLP_end stp
    | some v =>
      rw [ej] at stp
      have E1 : eqO s53 h (sI g 53 t v) := eqO_sI a1 (by decide)
      obtain ⟨g2, d1, d2, d3⟩ := H2 (sI g 53 t v) a to t (CDh_fr (CDh_sub C (by omega) (Nat.le_refl _)) E1) (by omega)
      refine ⟨g2, eqO_trans E1 d1, fun i hi => by rw [d2 i hi, hI_sI', if_neg (by omega)]; exact a2 i (by omega), ?_⟩
      show OC ((D (wf (hI h 52))).bind _) _ _ _ _ _ _
      rw [eD, b1, Option.bind_some, ej, Option.bind_some, WLP_go stp]
      rw [(E1.2 52 (by decide)).1, hI_sI', if_pos ⟨rfl, rfl⟩] at d3
      exact d3
theorem EvC_cmp {D1 D2 : (Nat → Int32) → Option Int32} {c : Nat → Int32} {p q1 q2 op pt pt1 : Nat} (H1 : EvC D1 c p q1 pt) (H2 : EvC D2 c q1 q2 pt1) (e : c q2 = opc (nI op) 0) (o1 : 6 ≤ op) (o2 : op ≤ 8) (hp : pt < pt1) (hpt : pt1 ≤ 50) (h1 : p ≤ q1) (h2 : q1 ≤ q2) : EvB (fun w => (D1 w).bind fun u => (D2 w).bind fun v => some (cpN op u v)) c p (q2 + 1) pt := by
  intro h a to t C ht
  obtain ⟨g, a1, a2, a3⟩ := H1 h a to t (CDh_sub C (Nat.le_refl _) (by omega)) ht
  cases eD : D1 (wf (hI h 52)) with
  | none =>
    rw [eD] at a3
    exact ⟨g, a1, a2, by show OC (((D1 (wf (hI h 52))).bind _).map b01) _ _ _ _ _ _; rw [eD]; exact a3⟩
  | some u =>
    rw [eD] at a3
    obtain ⟨b1, b2⟩ := a3
    obtain ⟨g2, d1, d2, d3⟩ := H2 g a to (t + 1) (CDh_fr (CDh_sub C h1 (by omega)) a1) (by omega)
    rw [tp_up, (a1.2 52 (by decide)).1] at d3
    have E2 := eqO_trans a1 d1
    cases eE : D2 (wf (hI h 52)) with
    | none =>
      rw [eE] at d3
      refine ⟨g2, E2, fun i hi => (d2 i (by omega)).trans (a2 i hi), ?_⟩
      show OC (((D1 (wf (hI h 52))).bind fun u => (D2 (wf (hI h 52))).bind _).map b01) _ _ _ _ _ _
      rw [eD, eE, b1]
      exact d3
    | some v =>
      rw [eE] at d3
      obtain ⟨f1, f2⟩ := d3
      have et : hI g2 53 t = u := (d2 t (by omega)).trans b2
      have stp : s_Teller_worksOut_6 a (nI to) (nI (t + 1)) (nI q2) g2 = some (.inl (a, nI to, nI t, nI (q2 + 1), sI g2 53 t (b01 (cpN op u v)))) := by
        rw [W_at (CDh_fr C E2) (by omega) (by omega), e, W_bin (opc_sgn op (by omega)) (by omega) o2 (by omega), p_compares o1 o2 (by omega), et, f2]
        show (if (1 : Int32) = 0 then inr (s_Teller_worksOut_103 (sI g2 53 t (b01 (cpN op u v)))) else s_Teller_worksOut_191 a (nI to) (nI t) (nI q2) (sI g2 53 t (b01 (cpN op u v)))) = _
        rw [if_neg (by decide)]
        unfold s_Teller_worksOut_191
        rw [nI_1]
      refine ⟨sI g2 53 t (b01 (cpN op u v)), eqO_sI E2 (by decide), fun i hi => by rw [hI_sI', if_neg (by omega), d2 i (by omega)]; exact a2 i hi, ?_⟩
      show OC (((D1 (wf (hI h 52))).bind fun u => (D2 (wf (hI h 52))).bind _).map b01) _ _ _ _ _ _
      rw [eD, eE, b1]
      exact ⟨f1.trans (WLP_go stp), by rw [hI_sI', if_pos ⟨rfl, rfl⟩]⟩
theorem b01_not (b : Bool) : (1 : Int32) - b01 b = b01 (!b) := by cases b <;> decide
theorem W_un {op t : Nat} {x : Int32} {a : Nat} {to at_ : Int32} {h : Hp} (ex : x &&& 15 = nI op) (h1 : 9 ≤ op) (h2 : op ≤ 11) (ht : t < 64) : wB x a to (nI t) at_ h = if op = 9 then s_Teller_worksOut_191 a to (nI t) at_ (sI h 53 t (1 - hI h 53 t)) else if hI h 53 t = 0 then s_Teller_worksOut_159 a to (nI t) at_ (nI op) (z_shr x 4) 0 h else s_Teller_worksOut_159 a to (nI t) at_ (nI op) (z_shr x 4) 1 h := by
  unfold wB
  rw [ex, if_pos (by rw [show (1 : Int32) = nI 1 from rfl, nI_ltI (by decide) (by omega)]; omega), if_pos (by rw [show (8 : Int32) = nI 8 from rfl, nI_ltI (by decide) (by omega)]; omega), if_pos (show (0 : Int32) ≤ nI t from nI_le (a := 0) (Nat.zero_le _) (by omega)), show ix (nI t) = t from nI_clamp (by omega)]
  by_cases z : op = 9
  · rw [if_pos (by rw [z]; rfl), if_pos z, ib_nI ht (by decide), ib_nI ht (by decide)]
  · rw [if_neg (by rw [show (9 : Int32) = nI 9 from rfl, nI_eq (by omega) (by decide)]; exact z), if_neg z, ib_nI ht (by decide)]
theorem EvB_not {B : (Nat → Int32) → Option Bool} {c : Nat → Int32} {p q pt : Nat} (H1 : EvB B c p q pt) (e : c q = opc 9 0) (hpt : pt ≤ 50) (h1 : p ≤ q) : EvB (fun w => (B w).map fun b => !b) c p (q + 1) pt := by
  intro h a to t C ht
  obtain ⟨g, a1, a2, a3⟩ := H1 h a to t (CDh_sub C (Nat.le_refl _) (by omega)) ht
  have a3 : OC ((B (wf (hI h 52))).map b01) (WLP a to (nI t - 1) p h) a to t q g := a3
  cases eB : B (wf (hI h 52)) with
  | none =>
    rw [eB] at a3
    exact ⟨g, a1, a2, by show OC (((B (wf (hI h 52))).map _).map b01) _ _ _ _ _ _; rw [eB]; exact a3⟩
  | some b =>
    rw [eB] at a3
    obtain ⟨b1, b2⟩ := a3
    have b2 : hI g 53 t = b01 b := b2
    have stp : s_Teller_worksOut_6 a (nI to) (nI t) (nI q) g = some (.inl (a, nI to, nI t, nI (q + 1), sI g 53 t (b01 (!b)))) := by
      rw [W_at (CDh_fr C a1) h1 (by omega), e, W_un (op := 9) (t := t) (x := opc 9 0) (opc_sgn 9 (by decide)) (by decide) (by decide) (by omega), if_pos rfl, b2, b01_not]
      unfold s_Teller_worksOut_191
      rw [nI_1]
    refine ⟨sI g 53 t (b01 (!b)), eqO_sI a1 (by decide), fun i hi => by rw [hI_sI', if_neg (by omega)]; exact a2 i hi, ?_⟩
    show OC (((B (wf (hI h 52))).map _).map b01) _ _ _ _ _ _
    rw [eB]
    exact ⟨b1.trans (WLP_go stp), by rw [hI_sI', if_pos ⟨rfl, rfl⟩]⟩
theorem EvB_seq {B : (Nat → Int32) → Option Bool} {tb : (Nat → Int32) → Bool → Option Bool} {c : Nat → Int32} {p q1 q pt pt1 : Nat} (H1 : EvB B c p q1 pt) (H2 : EvCb tb c q1 q pt1) (hp : pt < pt1) (h1 : p ≤ q1) (h2 : q1 ≤ q) : EvB (fun w => (B w).bind (tb w)) c p q pt := by
  intro h a to t C ht
  obtain ⟨g, a1, a2, a3⟩ := H1 h a to t (CDh_sub C (Nat.le_refl _) h2) ht
  have a3 : OC ((B (wf (hI h 52))).map b01) (WLP a to (nI t - 1) p h) a to t q1 g := a3
  cases e : B (wf (hI h 52)) with
  | none =>
    rw [e] at a3
    exact ⟨g, a1, a2, by show OC (((B (wf (hI h 52))).bind _).map b01) _ _ _ _ _ _; rw [e]; exact a3⟩
  | some v =>
    rw [e] at a3
    obtain ⟨b1, b2⟩ := a3
    obtain ⟨g2, d1, d2, d3⟩ := H2 g a to t v (CDh_fr (CDh_sub C h1 (Nat.le_refl _)) a1) (by omega) b2
    refine ⟨g2, eqO_trans a1 d1, fun i hi => (d2 i hi).trans (a2 i hi), ?_⟩
    show OC (((B (wf (hI h 52))).bind _).map b01) _ _ _ _ _ _
    rw [e, b1]
    rw [(a1.2 52 (by decide)).1] at d3
    exact d3
theorem EvCb_nil {c : Nat → Int32} {p pt : Nat} : EvCb (fun _ v => some v) c p p pt := fun h a to t b _ _ e => ⟨h, eqO_refl _ _, fun _ _ => rfl, rfl, e⟩
theorem z_max_up {a b : Nat} (h1 : a ≤ b) (h2 : b < 400) : z_max (nI a) (nI (b + 1) - 1) = nI b := by
  rw [tp_up, z_max_nI (by omega) (by omega), Nat.max_eq_left h1]
/-- or (o = true) and and (o = false): the jump stands at p, the other side from p + 1 to q1 -/
theorem EvCb_jmp {B : (Nat → Int32) → Option Bool} {tb : (Nat → Int32) → Bool → Option Bool} {c : Nat → Int32} {p q1 q pt pt2 : Nat} (o : Bool) (e : c p = opc (if o then 10 else 11) (nI q1)) (H1 : EvB B c (p + 1) q1 pt) (H2 : EvCb tb c q1 q pt2) (hp : pt ≤ pt2) (hpt : pt ≤ 50) (h1 : p + 1 ≤ q1) (h2 : q1 ≤ q) : EvCb (fun w v => if v = o then tb w v else (B w).bind (tb w)) c p q pt := by
  intro h a to t v C ht ev
  have C2 := C
  obtain ⟨-, ⟨na, -, n2, n3⟩, -, -, -⟩ := C2
  obtain ⟨j1, j2⟩ := opc_jmp q1 (by omega)
  have ex : c p &&& 15 = nI (if o then 10 else 11) ∧ z_shr (c p) 4 = nI q1 := by
    rw [e]
    cases o
    · exact j2
    · exact j1
  have ho : 9 ≤ (if o then 10 else 11 : Nat) ∧ (if o then 10 else 11 : Nat) ≤ 11 ∧ ¬ (if o then 10 else 11 : Nat) = 9 := by cases o <;> decide
  have W := W_un (t := t) (x := c p) (a := a) (to := nI to) (at_ := nI p) (h := h) ex.1 ho.1 ho.2.1 (by omega)
  rw [if_neg ho.2.2, ev, ex.2] at W
  obtain ⟨q0, eq0⟩ : ∃ q0, q1 = q0 + 1 := ⟨q1 - 1, by omega⟩
  by_cases z : v = o
  · have stp : s_Teller_worksOut_6 a (nI to) (nI t) (nI p) h = some (.inl (a, nI to, nI t, nI q1, h)) := by
      rw [W_at C (Nat.le_refl _) (by omega), W, z]
      unfold s_Teller_worksOut_159 s_Teller_worksOut_171 s_Teller_worksOut_191
      cases o
      · rw [if_pos (show b01 false = 0 from rfl), if_neg (show ¬ nI (if false = true then 10 else 11) = 10 by decide), if_pos rfl, eq0, z_max_up (by omega) (by omega), nI_1]
      · rw [if_neg (show ¬ b01 true = 0 by decide), if_pos (show nI (if true = true then 10 else 11) = 10 by decide), if_pos rfl, eq0, z_max_up (by omega) (by omega), nI_1]
    obtain ⟨g, d1, d2, d3⟩ := H2 h a to t v (CDh_sub C (by omega) (Nat.le_refl _)) (by omega) ev
    refine ⟨g, d1, d2, ?_⟩
    show OC ((if v = o then tb (wf (hI h 52)) v else _).map b01) _ _ _ _ _ _
    rw [if_pos z, WLP_go stp]
    exact d3
  · have et : nI t + (-1 : Int32) = nI t - 1 := (Int32.sub_eq_add_neg _ _).symm
    have stp : s_Teller_worksOut_6 a (nI to) (nI t) (nI p) h = some (.inl (a, nI to, nI t - 1, nI (p + 1), h)) := by
      rw [W_at C (Nat.le_refl _) (by omega), W]
      unfold s_Teller_worksOut_159 s_Teller_worksOut_171 s_Teller_worksOut_191
      rw [et, nI_1]
      cases o
      · have : v = true := by cases v <;> simp_all
        rw [this, if_neg (show ¬ b01 true = 0 by decide), if_neg (show ¬ nI (if false = true then 10 else 11) = 10 by decide), if_neg (by decide)]
      · have : v = false := by cases v <;> simp_all
        rw [this, if_pos (show b01 false = 0 from rfl), if_pos (show nI (if true = true then 10 else 11) = 10 by decide), if_neg (by decide)]
    obtain ⟨g, a1, a2, a3⟩ := H1 h a to t (CDh_sub C (by omega) h2) (by omega)
    rw [← WLP_go stp] at a3
    have a3 : OC ((B (wf (hI h 52))).map b01) (WLP a to (nI t) p h) a to t q1 g := a3
    cases eB : B (wf (hI h 52)) with
    | none =>
      rw [eB] at a3
      refine ⟨g, a1, a2, ?_⟩
      show OC ((if v = o then _ else (B (wf (hI h 52))).bind _).map b01) _ _ _ _ _ _
      rw [if_neg z, eB]
      exact a3
    | some u =>
      rw [eB] at a3
      obtain ⟨b1, b2⟩ := a3
      obtain ⟨g2, d1, d2, d3⟩ := H2 g a to t u (CDh_fr (CDh_sub C (by omega) (Nat.le_refl _)) a1) (by omega) b2
      refine ⟨g2, eqO_trans a1 d1, fun i hi => (d2 i hi).trans (a2 i hi), ?_⟩
      show OC ((if v = o then _ else (B (wf (hI h 52))).bind _).map b01) _ _ _ _ _ _
      rw [if_neg z, eB, b1]
      rw [(a1.2 52 (by decide)).1] at d3
      exact d3
