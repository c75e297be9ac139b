/-! the law: what the class's code tells -/
def wf (w : Nat → Int32) (i : Nat) : Int32 := [w 0, w 1, w 2, w 3, w 4, w 5, w 6].getD i 0
theorem wf_at (w : Nat → Int32) {i : Nat} (hi : i < 7) : wf w i = w i := by
  rcases (show i = 0 ∨ i = 1 ∨ i = 2 ∨ i = 3 ∨ i = 4 ∨ i = 5 ∨ i = 6 by omega) with rfl | rfl | rfl | rfl | rfl | rfl | rfl <;> rfl
def s53 (j : Nat) : Bool := decide (j = 53)
noncomputable def WLP (a to : Nat) (tp : Int32) (p : Nat) (h : Hp) : Option (Int32 × Hp) := lp (fun q : Nat × Int32 × Int32 × Int32 × Hp => s_Teller_worksOut_6 q.1 q.2.1 q.2.2.1 q.2.2.2.1 q.2.2.2.2) (a, nI to, tp, nI p, h)
theorem WLP_go {a to p p' : Nat} {tp tp' : Int32} {h h' : Hp} (e : s_Teller_worksOut_6 a (nI to) tp (nI p) h = some (.inl (a, nI to, tp', nI p', h'))) : WLP a to tp p h = WLP a to tp' p' h' := lp_inl e
theorem WLP_end {a to p : Nat} {tp : Int32} {h : Hp} {r : Int32 × Hp} (e : s_Teller_worksOut_6 a (nI to) tp (nI p) h = some (.inr r)) : WLP a to tp p h = some r := lp_inr e
def CDh (c : Nat → Int32) (p q a to : Nat) (h : Hp) : Prop := NS ≤ a ∧ (∃ na, nd h a 0 na ∧ q ≤ na ∧ na ≤ 400) ∧ q ≤ to ∧ to ≤ 400 ∧ ∀ i, p ≤ i → i < q → hI h a i = c i
theorem CDh_fr {c : Nat → Int32} {p q a to : Nat} {h h2 : Hp} (C : CDh c p q a to h) (E : eqO s53 h h2) : CDh c p q a to h2 := by
  obtain ⟨c1, ⟨na, n1, n2, n3⟩, c3, c4, c5⟩ := C
  have ha : s53 a = false := decide_eq_false (by have : 114 ≤ a := c1; omega)
  exact ⟨c1, ⟨na, nd_eq E.1 n1, n2, n3⟩, c3, c4, fun i h1 h2 => by rw [(E.2 a ha).1]; exact c5 i h1 h2⟩
theorem CDh_sub {c : Nat → Int32} {p q p2 q2 a to : Nat} {h : Hp} (C : CDh c p q a to h) (h1 : p ≤ p2) (h2 : q2 ≤ q) : CDh c p2 q2 a to h := by
  obtain ⟨c1, ⟨na, n1, n2, n3⟩, c3, c4, c5⟩ := C
  exact ⟨c1, ⟨na, n1, by omega, n3⟩, by omega, c4, fun i h3 h4 => c5 i (by omega) (by omega)⟩
/-- one instruction -/
noncomputable def wB (x : Int32) (v1 : Nat) (v3 v4 v5 : Int32) (h : Hp) : Option ((Nat × Int32 × Int32 × Int32 × Hp) ⊕ (Int32 × Hp)) :=
  if ((1 : Int32)) < (x &&& ((15 : Int32))) then
    if ((8 : Int32)) < (x &&& ((15 : Int32))) then
      if 0 ≤ v4 then
        if (x &&& ((15 : Int32))) = ((9 : Int32)) then
          ib v4 64 <| ib v4 64 <| s_Teller_worksOut_191 v1 v3 v4 v5 (sI h 53 (ix v4) (((1 : Int32)) - (hI h 53 (ix v4))))
        else
          ib v4 64 <| if (hI h 53 (ix v4)) = 0 then
            s_Teller_worksOut_159 v1 v3 v4 v5 (x &&& ((15 : Int32))) (z_shr x ((4 : Int32))) ((0 : Int32)) h
          else
            s_Teller_worksOut_159 v1 v3 v4 v5 (x &&& ((15 : Int32))) (z_shr x ((4 : Int32))) ((1 : Int32)) h
      else
        some (.inr ((0 : Int32), h))
    else
      if v4 < ((1 : Int32)) then
        inr (s_Teller_worksOut_103 h)
      else
        (s_Teller_joins (x &&& ((15 : Int32))) (v4 - ((1 : Int32))) h).bind fun u3 => if u3.1 = 0 then
          inr (s_Teller_worksOut_103 u3.2)
        else
          s_Teller_worksOut_191 v1 v3 (v4 + (-1 : Int32)) v5 u3.2
  else
    if v4 < ((63 : Int32)) then
      if (x &&& ((15 : Int32))) = 0 then
        s_Teller_worksOut_73 v1 v3 (v4 + (1 : Int32)) v5 (z_shr x ((4 : Int32))) (v4 + (1 : Int32)) h
      else
        ib (z_rem (z_shr x ((4 : Int32))) ((7 : Int32))) 7 <| s_Teller_worksOut_73 v1 v3 (v4 + (1 : Int32)) v5 (hI h 52 (ix (z_rem (z_shr x ((4 : Int32))) ((7 : Int32))))) (v4 + (1 : Int32)) h
    else
      some (.inr ((0 : Int32), h))
theorem W_at {c : Nat → Int32} {p q a to i : Nat} {tp : Int32} {h : Hp} (C : CDh c p q a to h) (h1 : p ≤ i) (h2 : i < q) : s_Teller_worksOut_6 a (nI to) tp (nI i) h = wB (c i) a (nI to) tp (nI i) h := by
  obtain ⟨c1, ⟨na, n1, n2, n3⟩, c3, c4, c5⟩ := C
  unfold s_Teller_worksOut_6
  rw [if_neg (by rw [nI_leI (by omega) (by omega)]; omega), ak_some n1, ln_of n1, ib_nI (by omega) (by omega), ak_some n1, ib_nI (by omega) (by omega), show ix (nI i) = i from nI_clamp (by omega), c5 i h1 h2]
  rfl
def opc (sg w : Int32) : Int32 := sg ||| z_shl w 4
theorem opc_num : ∀ w, w < 1001 → opc 0 (nI w) &&& 15 = 0 ∧ z_shr (opc 0 (nI w)) 4 = nI w := by decide +kernel
theorem opc_word : ∀ w, w < 7 → opc 1 (nI w) &&& 15 = 1 ∧ z_rem (z_shr (opc 1 (nI w)) 4) 7 = nI w := by decide +kernel
theorem opc_sgn : ∀ g, g < 12 → opc (nI g) 0 &&& 15 = nI g := by decide +kernel
theorem opc_jmp : ∀ w, w < 401 → (opc 10 (nI w) &&& 15 = 10 ∧ z_shr (opc 10 (nI w)) 4 = nI w) ∧ (opc 11 (nI w) &&& 15 = 11 ∧ z_shr (opc 11 (nI w)) 4 = nI w) := by decide +kernel
def OC (r : Option Int32) (X : Option (Int32 × Hp)) (a to t q : Nat) (h' : Hp) : Prop := match r with
  | some v => X = WLP a to (nI t) q h' ∧ hI h' 53 t = v
  | none => X = some (0, h')
def EvC (D : (Nat → Int32) → Option Int32) (c : Nat → Int32) (p q pt : Nat) : Prop := ∀ (h : Hp) (a to t : Nat), CDh c p q a to h → t ≤ pt → ∃ h', eqO s53 h h' ∧ (∀ i, i < t → hI h' 53 i = hI h 53 i) ∧ OC (D (wf (hI h 52))) (WLP a to (nI t - 1) p h) a to t q h'
def EvCt (tl : (Nat → Int32) → Int32 → Option Int32) (c : Nat → Int32) (p q pt : Nat) : Prop := ∀ (h : Hp) (a to t : Nat), CDh c p q a to h → t < pt → ∃ h', eqO s53 h h' ∧ (∀ i, i < t → hI h' 53 i = hI h 53 i) ∧ OC (tl (wf (hI h 52)) (hI h 53 t)) (WLP a to (nI t) p h) a to t q h'
def EvCb (tb : (Nat → Int32) → Bool → Option Bool) (c : Nat → Int32) (p q pt : Nat) : Prop := ∀ (h : Hp) (a to t : Nat) (b : Bool), CDh c p q a to h → t < pt → hI h 53 t = b01 b → ∃ h', eqO s53 h h' ∧ (∀ i, i < t → hI h' 53 i = hI h 53 i) ∧ OC ((tb (wf (hI h 52)) b).map b01) (WLP a to (nI t) p h) a to t q h'
def EvB (B : (Nat → Int32) → Option Bool) (c : Nat → Int32) (p q pt : Nat) : Prop := EvC (fun w => (B w).map b01) c p q pt
theorem CDh_c {c c2 : Nat → Int32} {p q a to : Nat} {h : Hp} (e : ∀ i, p ≤ i → i < q → c2 i = c i) (C : CDh c2 p q a to h) : CDh c p q a to h := ⟨C.1, C.2.1, C.2.2.1, C.2.2.2.1, fun i h1 h2 => by rw [C.2.2.2.2 i h1 h2, e i h1 h2]⟩
theorem EvC_congr {D : (Nat → Int32) → Option Int32} {c c2 : Nat → Int32} {p q pt : Nat} (H : EvC D c p q pt) (e : ∀ i, p ≤ i → i < q → c2 i = c i) : EvC D c2 p q pt := fun h a to t C ht => H h a to t (CDh_c e C) ht
theorem EvCt_congr {D : (Nat → Int32) → Int32 → Option Int32} {c c2 : Nat → Int32} {p q pt : Nat} (H : EvCt D c p q pt) (e : ∀ i, p ≤ i → i < q → c2 i = c i) : EvCt D c2 p q pt := fun h a to t C ht => H h a to t (CDh_c e C) ht
theorem tp_up (t : Nat) : nI (t + 1) - 1 = nI t := by rw [show (1 : Int32) = nI 1 from rfl, nI_sub (by omega), Nat.add_sub_cancel]
theorem tp_63 {t : Nat} (h : t ≤ 50) : nI t - 1 < 63 ∧ nI t - 1 + 1 = nI t := by
  refine ⟨?_, ?_⟩
  · cases t with
    | zero => decide
    | succ t => rw [tp_up, show (63 : Int32) = nI 63 from rfl, nI_ltI (by omega) (by decide)]; omega
  · cases t with
    | zero => decide
    | succ t => rw [tp_up, nI_1]
theorem EvC_num {c : Nat → Int32} {p w pt : Nat} (hw : w < 1001) (e : c p = opc 0 (nI w)) (hp : pt ≤ 50) : EvC (fun _ => some (nI w)) c p (p + 1) pt := by
  intro h a to t C ht
  obtain ⟨o1, o2⟩ := opc_num w hw
  obtain ⟨t1, t2⟩ := tp_63 (t := t) (by omega)
  refine ⟨sI h 53 t (nI w), eqO_sI (eqO_refl _ _) (by decide), fun i hi => by rw [hI_sI', if_neg (by omega)], WLP_go ?_, by rw [hI_sI', if_pos ⟨rfl, rfl⟩]⟩
  rw [W_at C (Nat.le_refl _) (by omega), e]
  unfold wB s_Teller_worksOut_73 s_Teller_worksOut_191
  rw [o1, o2, if_neg (show ¬ (1 : Int32) < 0 by decide), if_pos t1, if_pos rfl, t2, ib_nI (by omega) (by decide), show ix (nI t) = t from nI_clamp (by omega), nI_1]
theorem EvC_word {c : Nat → Int32} {p w pt : Nat} (hw : w < 7) (e : c p = opc 1 (nI w)) (hp : pt ≤ 50) : EvC (fun v => some (v w)) c p (p + 1) pt := by
  intro h a to t C ht
  obtain ⟨o1, o2⟩ := opc_word w hw
  obtain ⟨t1, t2⟩ := tp_63 (t := t) (by omega)
  refine ⟨sI h 53 t (hI h 52 w), eqO_sI (eqO_refl _ _) (by decide), fun i hi => by rw [hI_sI', if_neg (by omega)], WLP_go ?_, by rw [hI_sI', if_pos ⟨rfl, rfl⟩, wf_at _ hw]⟩
  rw [W_at C (Nat.le_refl _) (by omega), e]
  unfold wB s_Teller_worksOut_73 s_Teller_worksOut_191
  rw [o1, o2, if_neg (show ¬ (1 : Int32) < 1 by decide), if_pos t1, if_neg (show ¬ (1 : Int32) = 0 by decide), t2, ib_nI hw (by decide), ib_nI (by omega) (by decide), show ix (nI t) = t from nI_clamp (by omega), show ix (nI w) = w from nI_clamp (by omega), nI_1]
theorem EvC_seq {D : (Nat → Int32) → Option Int32} {tl : (Nat → Int32) → Int32 → Option Int32} {c : Nat → Int32} {p q1 q pt pt1 : Nat} (H1 : EvC D c p q1 pt) (H2 : EvCt tl c q1 q pt1) (hp : pt < pt1) (h1 : p ≤ q1) (h2 : q1 ≤ q) : EvC (fun w => (D w).bind (tl w)) c p q pt := by
  intro h a to t C ht
  obtain ⟨g, a1, a2, a3⟩ := H1 h a to t (CDh_sub C (Nat.le_refl _) h2) ht
  cases e : D (wf (hI h 52)) with
  | none =>
    rw [e] at a3
    exact ⟨g, a1, a2, by show OC ((D (wf (hI h 52))).bind _) _ _ _ _ _ _; rw [e]; exact a3⟩
  | some v =>
    rw [e] at a3
    obtain ⟨b1, b2⟩ := a3
    obtain ⟨g2, d1, d2, d3⟩ := H2 g a to t (CDh_fr (CDh_sub C h1 (Nat.le_refl _)) a1) (by omega)
    refine ⟨g2, eqO_trans a1 d1, fun i hi => (d2 i hi).trans (a2 i hi), ?_⟩
    show OC ((D (wf (hI h 52))).bind _) _ _ _ _ _ _
    rw [e, b1]
    rw [(a1.2 52 (by decide)).1, b2] at d3
    exact d3
theorem EvCt_nil {c : Nat → Int32} {p pt : Nat} : EvCt (fun _ v => some v) c p p pt := fun h a to t _ _ => ⟨h, eqO_refl _ _, fun _ _ => rfl, rfl, rfl⟩
/-- joining -/
def bdI (x : Int64) : Option Int32 := if 1000000000 < x then none else if x < -1000000000 then none else some x.toInt32
def jn (op : Nat) (a b : Int32) : Option Int32 := if op = 2 then bdI (a.toInt64 + b.toInt64) else if op = 3 then bdI (a.toInt64 - b.toInt64) else if op = 4 then bdI (a.toInt64 * b.toInt64) else if b.toInt64 = 0 then none else bdI (a.toInt64 / b.toInt64)
def cpN (op : Nat) (a b : Int32) : Bool := if op = 6 then decide (a.toInt64 < b.toInt64) else if op = 7 then decide (b.toInt64 < a.toInt64) else decide (a.toInt64 = b.toInt64)
theorem p_j153 {t : Nat} {x : Int64} {h : Hp} (ht : t < 64) : s_Teller_joins_153 (nI t) x h = match bdI x with
    | some v => some (1, sI h 53 t v)
    | none => some (0, h) := by
  unfold s_Teller_joins_153 s_Teller_joins_171 bdI
  by_cases z : 1000000000 < x
  · rw [if_pos ((lg_cmp_gt _ _).mpr z), if_pos z]
  · rw [if_neg (fun u => z ((lg_cmp_gt _ _).mp u)), if_neg z]
    by_cases w : x < -1000000000
    · rw [if_neg (fun u => absurd w (Int64.not_lt.mpr ((lg_cmp_ge _ _).mp u))), if_pos w]
    · rw [if_pos ((lg_cmp_ge _ _).mpr (Int64.not_lt.mp w)), if_neg w, ib_nI ht (by decide), show ix (nI t) = t from nI_clamp (by omega)]
theorem p_joins {op t : Nat} {h : Hp} (h1 : 2 ≤ op) (h2 : op ≤ 5) (ht : t + 1 < 64) : s_Teller_joins (nI op) (nI t) h = match jn op (hI h 53 t) (hI h 53 (t + 1)) with
    | some v => some (1, sI h 53 t v)
    | none => some (0, h) := by
  unfold s_Teller_joins jn
  rw [ib_nI (by omega) (by decide), nI_1, ib_nI ht (by decide), lt_eq, show ix (nI t) = t from nI_clamp (by omega), show ix (nI (t + 1)) = t + 1 from nI_clamp (by omega)]
  rcases (show op = 2 ∨ op = 3 ∨ op = 4 ∨ op = 5 by omega) with rfl | rfl | rfl | rfl
  · rw [if_pos (show nI 2 = 2 from rfl), if_pos rfl]; exact p_j153 (by omega)
  · rw [if_neg (show ¬ nI 3 = 2 by decide), if_pos (show nI 3 = 3 from rfl), if_neg (by decide), if_pos rfl]; exact p_j153 (by omega)
  · rw [if_neg (show ¬ nI 4 = 2 by decide), if_neg (show ¬ nI 4 = 3 by decide), if_pos (show nI 4 = 4 from rfl), if_neg (by decide), if_neg (by decide), if_pos rfl]; exact p_j153 (by omega)
  · rw [if_neg (show ¬ nI 5 = 2 by decide), if_neg (show ¬ nI 5 = 3 by decide), if_neg (show ¬ nI 5 = 4 by decide), if_pos (show nI 5 = 5 from rfl), if_neg (show ¬ 5 = 2 by decide), if_neg (show ¬ 5 = 3 by decide), if_neg (show ¬ 5 = 4 by decide)]
    by_cases z : (hI h 53 (t + 1)).toInt64 = 0
    · rw [if_pos ((lg_cmp_eq _ _).mpr z), if_pos z]
    · rw [if_neg (fun u => z ((lg_cmp_eq _ _).mp u)), if_neg z, cnL_some z]; exact p_j153 (by omega)
theorem bdI_01 (b : Bool) : bdI (if b then 1 else 0) = some (b01 b) := by cases b <;> decide
theorem p_compares {op t : Nat} {h : Hp} (h1 : 6 ≤ op) (h2 : op ≤ 8) (ht : t + 1 < 64) : s_Teller_joins (nI op) (nI t) h = some (1, sI h 53 t (b01 (cpN op (hI h 53 t) (hI h 53 (t + 1))))) := by
  have key : ∀ b : Bool, s_Teller_joins_153 (nI t) (if b then 1 else 0) h = some (1, sI h 53 t (b01 b)) := fun b => by rw [p_j153 (by omega), bdI_01]
  have k1 := key true
  have k0 := key false
  rw [if_pos rfl] at k1
  rw [if_neg (show ¬ false = true by decide)] at k0
  unfold s_Teller_joins s_Teller_joins_117 s_Teller_joins_134 s_Teller_joins_151 cpN
  rw [ib_nI (by omega) (by decide), nI_1, ib_nI ht (by decide), lt_eq, show ix (nI t) = t from nI_clamp (by omega), show ix (nI (t + 1)) = t + 1 from nI_clamp (by omega)]
  rcases (show op = 6 ∨ op = 7 ∨ op = 8 by omega) with rfl | rfl | rfl
  · rw [if_neg (show ¬ nI 6 = 2 by decide), if_neg (show ¬ nI 6 = 3 by decide), if_neg (show ¬ nI 6 = 4 by decide), if_neg (show ¬ nI 6 = 5 by decide), if_pos (show nI 6 = 6 from rfl), if_pos rfl]
    by_cases z : (hI h 53 t).toInt64 < (hI h 53 (t + 1)).toInt64
    · rw [if_neg (fun u => absurd z (Int64.not_lt.mpr ((lg_cmp_ge _ _).mp u))), decide_eq_true z]; exact k1
    · rw [if_pos ((lg_cmp_ge _ _).mpr (Int64.not_lt.mp z)), decide_eq_false z]; exact k0
  · rw [if_neg (show ¬ nI 7 = 2 by decide), if_neg (show ¬ nI 7 = 3 by decide), if_neg (show ¬ nI 7 = 4 by decide), if_neg (show ¬ nI 7 = 5 by decide), if_neg (show ¬ nI 7 = 6 by decide), if_pos (show nI 7 = 7 from rfl), if_neg (show ¬ 7 = 6 by decide), if_pos rfl]
    by_cases z : (hI h 53 (t + 1)).toInt64 < (hI h 53 t).toInt64
    · rw [if_neg (fun u => absurd z (Int64.not_lt.mpr ((lg_cmp_le _ _).mp u))), decide_eq_true z]; exact k1
    · rw [if_pos ((lg_cmp_le _ _).mpr (Int64.not_lt.mp z)), decide_eq_false z]; exact k0
  · rw [if_neg (show ¬ nI 8 = 2 by decide), if_neg (show ¬ nI 8 = 3 by decide), if_neg (show ¬ nI 8 = 4 by decide), if_neg (show ¬ nI 8 = 5 by decide), if_neg (show ¬ nI 8 = 6 by decide), if_neg (show ¬ nI 8 = 7 by decide), if_neg (show ¬ 8 = 6 by decide), if_neg (show ¬ 8 = 7 by decide)]
    by_cases z : (hI h 53 t).toInt64 = (hI h 53 (t + 1)).toInt64
    · rw [if_pos ((lg_cmp_eq _ _).mpr z), decide_eq_true z]; exact k1
    · rw [if_neg (fun u => z ((lg_cmp_eq _ _).mp u)), decide_eq_false z]; exact k0
