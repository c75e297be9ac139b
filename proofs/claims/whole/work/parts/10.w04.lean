noncomputable def b_Mod_bothOf_45 (rc0 : Int32 → Hp → Option (Int32 × Hp)) (rc1 : Int32 → Hp → Option (Int32 × Hp)) (rc2 : Int32 → Hp → Option (Int32 × Hp)) (rc3 : Int32 → Hp → Option (Int32 × Hp)) (v1 : Int32) (s0 : Int32) (h : Hp) : Option ((Int32 × Int32 × Hp) ⊕ (Int32 × Hp)) :=
  some (.inl (v1, s0, h))
noncomputable def b_Mod_bothOf_44 (rc0 : Int32 → Hp → Option (Int32 × Hp)) (rc1 : Int32 → Hp → Option (Int32 × Hp)) (rc2 : Int32 → Hp → Option (Int32 × Hp)) (rc3 : Int32 → Hp → Option (Int32 × Hp)) (v1 : Int32) (h : Hp) : Option ((Int32 × Int32 × Hp) ⊕ (Int32 × Hp)) :=
  b_Mod_bothOf_45 rc0 rc1 rc2 rc3 v1 ((0 : Int32)) h
noncomputable def b_Mod_bothOf_28 (rc0 : Int32 → Hp → Option (Int32 × Hp)) (rc1 : Int32 → Hp → Option (Int32 × Hp)) (rc2 : Int32 → Hp → Option (Int32 × Hp)) (rc3 : Int32 → Hp → Option (Int32 × Hp)) (v1 : Int32) (v2 : Int32) (s0 : Int32) (h : Hp) : Option ((Int32 × Int32 × Hp) ⊕ (Int32 × Hp)) :=
  (rc1 s0 h).bind fun u1 => if v2 = 0 then
    b_Mod_bothOf_44 rc0 rc1 rc2 rc3 v1 u1.2
  else
    if u1.1 = 0 then
      b_Mod_bothOf_44 rc0 rc1 rc2 rc3 v1 u1.2
    else
      b_Mod_bothOf_45 rc0 rc1 rc2 rc3 v1 ((1 : Int32)) u1.2
noncomputable def b_Mod_bothOf_27 (rc0 : Int32 → Hp → Option (Int32 × Hp)) (rc1 : Int32 → Hp → Option (Int32 × Hp)) (rc2 : Int32 → Hp → Option (Int32 × Hp)) (rc3 : Int32 → Hp → Option (Int32 × Hp)) (v1 : Int32) (v2 : Int32) (h : Hp) : Option ((Int32 × Int32 × Hp) ⊕ (Int32 × Hp)) :=
  b_Mod_bothOf_28 rc0 rc1 rc2 rc3 v1 v2 ((0 : Int32)) h
noncomputable def b_Mod_bothOf_6 (rc0 : Int32 → Hp → Option (Int32 × Hp)) (rc1 : Int32 → Hp → Option (Int32 × Hp)) (rc2 : Int32 → Hp → Option (Int32 × Hp)) (rc3 : Int32 → Hp → Option (Int32 × Hp)) (v1 : Int32) (v2 : Int32) (h : Hp) : Option ((Int32 × Int32 × Hp) ⊕ (Int32 × Hp)) :=
  (s_Mod_passes0 ((5 : Int32)) h).bind fun u1 => if u1.1 = 0 then
    bz v2 <| some (.inr (v2, u1.2))
  else
    if v1 = 0 then
      b_Mod_bothOf_27 rc0 rc1 rc2 rc3 v1 v2 u1.2
    else
      if v2 = 0 then
        b_Mod_bothOf_27 rc0 rc1 rc2 rc3 v1 v2 u1.2
      else
        b_Mod_bothOf_28 rc0 rc1 rc2 rc3 v1 v2 ((1 : Int32)) u1.2
noncomputable def b_Mod_bothOf (rc0 : Int32 → Hp → Option (Int32 × Hp)) (rc1 : Int32 → Hp → Option (Int32 × Hp)) (rc2 : Int32 → Hp → Option (Int32 × Hp)) (rc3 : Int32 → Hp → Option (Int32 × Hp)) (v1 : Int32) (h : Hp) : Option (Int32 × Hp) :=
  (rc1 v1 h).bind fun u1 => lp (fun q => b_Mod_bothOf_6 rc0 rc1 rc2 rc3 q.1 q.2.1 q.2.2) (v1, u1.1, u1.2)
noncomputable def b_Mod_plainOf_20 (rc0 : Int32 → Hp → Option (Int32 × Hp)) (rc1 : Int32 → Hp → Option (Int32 × Hp)) (rc2 : Int32 → Hp → Option (Int32 × Hp)) (rc3 : Int32 → Hp → Option (Int32 × Hp)) (v1 : Int32) (s0 : Int32) (h : Hp) : Option ((Int32 × Int32 × Hp) ⊕ (Int32 × Hp)) :=
  some (.inl (v1, s0, h))
noncomputable def b_Mod_plainOf_38 (rc0 : Int32 → Hp → Option (Int32 × Hp)) (rc1 : Int32 → Hp → Option (Int32 × Hp)) (rc2 : Int32 → Hp → Option (Int32 × Hp)) (rc3 : Int32 → Hp → Option (Int32 × Hp)) (s0 : Int32) (h : Hp) : Option (Int32 × Hp) :=
  bz s0 <| some (s0, h)
noncomputable def b_Mod_plainOf_2 (rc0 : Int32 → Hp → Option (Int32 × Hp)) (rc1 : Int32 → Hp → Option (Int32 × Hp)) (rc2 : Int32 → Hp → Option (Int32 × Hp)) (rc3 : Int32 → Hp → Option (Int32 × Hp)) (v1 : Int32) (v2 : Int32) (h : Hp) : Option ((Int32 × Int32 × Hp) ⊕ (Int32 × Hp)) :=
  (s_Mod_passes0 ((6 : Int32)) h).bind fun u1 => if u1.1 = 0 then
    (rc2 v1 u1.2).bind fun u2 => if u2.1 = v2 then
      inr (b_Mod_plainOf_38 rc0 rc1 rc2 rc3 ((0 : Int32)) u2.2)
    else
      inr (b_Mod_plainOf_38 rc0 rc1 rc2 rc3 ((1 : Int32)) u2.2)
  else
    if v2 = 0 then
      b_Mod_plainOf_20 rc0 rc1 rc2 rc3 v1 ((1 : Int32)) u1.2
    else
      b_Mod_plainOf_20 rc0 rc1 rc2 rc3 v1 ((0 : Int32)) u1.2
noncomputable def b_Mod_plainOf (rc0 : Int32 → Hp → Option (Int32 × Hp)) (rc1 : Int32 → Hp → Option (Int32 × Hp)) (rc2 : Int32 → Hp → Option (Int32 × Hp)) (rc3 : Int32 → Hp → Option (Int32 × Hp)) (v1 : Int32) (h : Hp) : Option (Int32 × Hp) :=
  lp (fun q => b_Mod_plainOf_2 rc0 rc1 rc2 rc3 q.1 q.2.1 q.2.2) (v1, ((0 : Int32)), h)
noncomputable def b_Mod_positiveOf_126 (rc0 : Int32 → Hp → Option (Int32 × Hp)) (rc1 : Int32 → Hp → Option (Int32 × Hp)) (rc2 : Int32 → Hp → Option (Int32 × Hp)) (rc3 : Int32 → Hp → Option (Int32 × Hp)) (s0 : Int32) (h : Hp) : Option (Int32 × Hp) :=
  bz s0 <| some (s0, h)
noncomputable def b_Mod_positiveOf_121 (rc0 : Int32 → Hp → Option (Int32 × Hp)) (rc1 : Int32 → Hp → Option (Int32 × Hp)) (rc2 : Int32 → Hp → Option (Int32 × Hp)) (rc3 : Int32 → Hp → Option (Int32 × Hp)) (h : Hp) : Option (Int32 × Hp) :=
  b_Mod_positiveOf_126 rc0 rc1 rc2 rc3 ((1 : Int32)) h
noncomputable def b_Mod_positiveOf_125 (rc0 : Int32 → Hp → Option (Int32 × Hp)) (rc1 : Int32 → Hp → Option (Int32 × Hp)) (rc2 : Int32 → Hp → Option (Int32 × Hp)) (rc3 : Int32 → Hp → Option (Int32 × Hp)) (h : Hp) : Option (Int32 × Hp) :=
  b_Mod_positiveOf_126 rc0 rc1 rc2 rc3 ((0 : Int32)) h
noncomputable def b_Mod_positiveOf (rc0 : Int32 → Hp → Option (Int32 × Hp)) (rc1 : Int32 → Hp → Option (Int32 × Hp)) (rc2 : Int32 → Hp → Option (Int32 × Hp)) (rc3 : Int32 → Hp → Option (Int32 × Hp)) (v1 : Int32) (h : Hp) : Option (Int32 × Hp) :=
  (s_Mod_sign ((40 : Int32)) h).bind fun u1 => (s_Mod_passes0 u1 h).bind fun u2 => if u2.1 = 0 then
    (s_Mod_sumOf v1 u2.2).bind fun u3 => (s_Mod_codeAt (hI u3.2 84 19) u3.2).bind fun u4 => (s_Mod_sumOf v1 (sI u3.2 84 19 ((hI u3.2 84 19) + ((1 : Int32))))).bind fun u5 => if v1 = 0 then
      b_Mod_positiveOf_125 rc0 rc1 rc2 rc3 u5.2
    else
      if (hI u5.2 84 21) = 0 then
        (s_Mod_sign ((60 : Int32)) u5.2).bind fun u6 => if u4 = u6 then
          if 0 ≤ (lg_cmp u3.1 u5.1) then
            b_Mod_positiveOf_125 rc0 rc1 rc2 rc3 u5.2
          else
            b_Mod_positiveOf_121 rc0 rc1 rc2 rc3 u5.2
        else
          (s_Mod_sign ((62 : Int32)) u5.2).bind fun u7 => if u4 = u7 then
            if (lg_cmp u3.1 u5.1) ≤ 0 then
              b_Mod_positiveOf_125 rc0 rc1 rc2 rc3 u5.2
            else
              b_Mod_positiveOf_121 rc0 rc1 rc2 rc3 u5.2
          else
            if (lg_cmp u3.1 u5.1) = 0 then
              b_Mod_positiveOf_121 rc0 rc1 rc2 rc3 u5.2
            else
              b_Mod_positiveOf_125 rc0 rc1 rc2 rc3 u5.2
      else
        b_Mod_positiveOf_125 rc0 rc1 rc2 rc3 u5.2
  else
    (rc3 v1 u2.2).bind fun u8 => bz u8.1 <| some (u8.1, sI u8.2 84 19 ((hI u8.2 84 19) + ((1 : Int32))))
noncomputable def b_Mod_testOf_45 (rc0 : Int32 → Hp → Option (Int32 × Hp)) (rc1 : Int32 → Hp → Option (Int32 × Hp)) (rc2 : Int32 → Hp → Option (Int32 × Hp)) (rc3 : Int32 → Hp → Option (Int32 × Hp)) (v1 : Int32) (s0 : Int32) (h : Hp) : Option ((Int32 × Int32 × Hp) ⊕ (Int32 × Hp)) :=
  some (.inl (v1, s0, h))
noncomputable def b_Mod_testOf_40 (rc0 : Int32 → Hp → Option (Int32 × Hp)) (rc1 : Int32 → Hp → Option (Int32 × Hp)) (rc2 : Int32 → Hp → Option (Int32 × Hp)) (rc3 : Int32 → Hp → Option (Int32 × Hp)) (v1 : Int32) (h : Hp) : Option ((Int32 × Int32 × Hp) ⊕ (Int32 × Hp)) :=
  b_Mod_testOf_45 rc0 rc1 rc2 rc3 v1 ((1 : Int32)) h
noncomputable def b_Mod_testOf_28 (rc0 : Int32 → Hp → Option (Int32 × Hp)) (rc1 : Int32 → Hp → Option (Int32 × Hp)) (rc2 : Int32 → Hp → Option (Int32 × Hp)) (rc3 : Int32 → Hp → Option (Int32 × Hp)) (v1 : Int32) (v2 : Int32) (s0 : Int32) (h : Hp) : Option ((Int32 × Int32 × Hp) ⊕ (Int32 × Hp)) :=
  (rc0 s0 h).bind fun u1 => if v2 = 0 then
    if u1.1 = 0 then
      b_Mod_testOf_45 rc0 rc1 rc2 rc3 v1 ((0 : Int32)) u1.2
    else
      b_Mod_testOf_40 rc0 rc1 rc2 rc3 v1 u1.2
  else
    b_Mod_testOf_40 rc0 rc1 rc2 rc3 v1 u1.2
noncomputable def b_Mod_testOf_27 (rc0 : Int32 → Hp → Option (Int32 × Hp)) (rc1 : Int32 → Hp → Option (Int32 × Hp)) (rc2 : Int32 → Hp → Option (Int32 × Hp)) (rc3 : Int32 → Hp → Option (Int32 × Hp)) (v1 : Int32) (v2 : Int32) (h : Hp) : Option ((Int32 × Int32 × Hp) ⊕ (Int32 × Hp)) :=
  b_Mod_testOf_28 rc0 rc1 rc2 rc3 v1 v2 ((0 : Int32)) h
noncomputable def b_Mod_testOf_6 (rc0 : Int32 → Hp → Option (Int32 × Hp)) (rc1 : Int32 → Hp → Option (Int32 × Hp)) (rc2 : Int32 → Hp → Option (Int32 × Hp)) (rc3 : Int32 → Hp → Option (Int32 × Hp)) (v1 : Int32) (v2 : Int32) (h : Hp) : Option ((Int32 × Int32 × Hp) ⊕ (Int32 × Hp)) :=
  (s_Mod_passes0 ((4 : Int32)) h).bind fun u1 => if u1.1 = 0 then
    bz v2 <| some (.inr (v2, u1.2))
  else
    if v1 = 0 then
      b_Mod_testOf_27 rc0 rc1 rc2 rc3 v1 v2 u1.2
    else
      if v2 = 0 then
        b_Mod_testOf_28 rc0 rc1 rc2 rc3 v1 v2 ((1 : Int32)) u1.2
      else
        b_Mod_testOf_27 rc0 rc1 rc2 rc3 v1 v2 u1.2
noncomputable def b_Mod_testOf (rc0 : Int32 → Hp → Option (Int32 × Hp)) (rc1 : Int32 → Hp → Option (Int32 × Hp)) (rc2 : Int32 → Hp → Option (Int32 × Hp)) (rc3 : Int32 → Hp → Option (Int32 × Hp)) (v1 : Int32) (h : Hp) : Option (Int32 × Hp) :=
  (rc0 v1 h).bind fun u1 => lp (fun q => b_Mod_testOf_6 rc0 rc1 rc2 rc3 q.1 q.2.1 q.2.2) (v1, u1.1, u1.2)
noncomputable def r_Mod_bothOf : Nat → (Int32 → Hp → Option (Int32 × Hp)) × (Int32 → Hp → Option (Int32 × Hp)) × (Int32 → Hp → Option (Int32 × Hp)) × (Int32 → Hp → Option (Int32 × Hp))
  | 0 => (fun _ _ => none, fun _ _ => none, fun _ _ => none, fun _ _ => none)
  | d + 1 => (b_Mod_bothOf ((r_Mod_bothOf d).1) ((r_Mod_bothOf d).2.1) ((r_Mod_bothOf d).2.2.1) ((r_Mod_bothOf d).2.2.2), b_Mod_plainOf ((r_Mod_bothOf d).1) ((r_Mod_bothOf d).2.1) ((r_Mod_bothOf d).2.2.1) ((r_Mod_bothOf d).2.2.2), b_Mod_positiveOf ((r_Mod_bothOf d).1) ((r_Mod_bothOf d).2.1) ((r_Mod_bothOf d).2.2.1) ((r_Mod_bothOf d).2.2.2), b_Mod_testOf ((r_Mod_bothOf d).1) ((r_Mod_bothOf d).2.1) ((r_Mod_bothOf d).2.2.1) ((r_Mod_bothOf d).2.2.2))
noncomputable def s_Mod_bothOf (v1 : Int32) (h : Hp) : Option (Int32 × Hp) := (r_Mod_bothOf 70).1 v1 h
noncomputable def s_Mod_plainOf (v1 : Int32) (h : Hp) : Option (Int32 × Hp) := (r_Mod_bothOf 70).2.1 v1 h
noncomputable def s_Mod_positiveOf (v1 : Int32) (h : Hp) : Option (Int32 × Hp) := (r_Mod_bothOf 70).2.2.1 v1 h
noncomputable def s_Mod_testOf (v1 : Int32) (h : Hp) : Option (Int32 × Hp) := (r_Mod_bothOf 70).2.2.2 v1 h
def O_Mod_bothOf (G : jG) (X : jX) (out : (Int32 × Hp)) : Prop := jO G X (some .boolean) (some (.int out.1)) out.2
def P_Mod_bothOf_6 (G : jG) (X : jX) (q : Int32 × Int32 × Hp) : Prop := J G X 6 [(0, .ref (G.1 + 84)), (1, .int q.1), (2, .int q.2.1)] [] q.2.2
def O_Mod_bothOf_6 (G : jG) (X : jX) (t : ((Int32 × Int32 × Hp) ⊕ (Int32 × Hp))) : Prop := Sum.elim (P_Mod_bothOf_6 G X) (O_Mod_bothOf G X) t
def O_Mod_plainOf (G : jG) (X : jX) (out : (Int32 × Hp)) : Prop := jO G X (some .boolean) (some (.int out.1)) out.2
def P_Mod_plainOf_2 (G : jG) (X : jX) (q : Int32 × Int32 × Hp) : Prop := J G X 2 [(0, .ref (G.1 + 84)), (1, .int q.1), (2, .int q.2.1)] [] q.2.2
def O_Mod_plainOf_2 (G : jG) (X : jX) (t : ((Int32 × Int32 × Hp) ⊕ (Int32 × Hp))) : Prop := Sum.elim (P_Mod_plainOf_2 G X) (O_Mod_plainOf G X) t
def O_Mod_positiveOf (G : jG) (X : jX) (out : (Int32 × Hp)) : Prop := jO G X (some .boolean) (some (.int out.1)) out.2
def O_Mod_testOf (G : jG) (X : jX) (out : (Int32 × Hp)) : Prop := jO G X (some .boolean) (some (.int out.1)) out.2
def P_Mod_testOf_6 (G : jG) (X : jX) (q : Int32 × Int32 × Hp) : Prop := J G X 6 [(0, .ref (G.1 + 84)), (1, .int q.1), (2, .int q.2.1)] [] q.2.2
def O_Mod_testOf_6 (G : jG) (X : jX) (t : ((Int32 × Int32 × Hp) ⊕ (Int32 × Hp))) : Prop := Sum.elim (P_Mod_testOf_6 G X) (O_Mod_testOf G X) t
theorem w_Mod_bothOf_45 {G : jG} {X : jX} {d : Nat} {rc0 : Int32 → Hp → Option (Int32 × Hp)} {rc1 : Int32 → Hp → Option (Int32 × Hp)} {rc2 : Int32 → Hp → Option (Int32 × Hp)} {rc3 : Int32 → Hp → Option (Int32 × Hp)} (C : jC G X cX12_bothOf 4 RX12 (104 + (d + 1)) (2739 + 26 * (d + 1))) (IH0 : ∀ (l : Launch) (v1 : Int32) (h : Hp) (out : (Int32 × Hp)), rc0 v1 h = some out → mt G l yX12_bothOf cX12_bothOf 4 (some .boolean) (104 + d) (2739 + 26 * d) [.ref (G.1 + 84), .int v1] h (some (.int out.1)) out.2) (IH1 : ∀ (l : Launch) (v1 : Int32) (h : Hp) (out : (Int32 × Hp)), rc1 v1 h = some out → mt G l yX12_plainOf cX12_plainOf 3 (some .boolean) (104 + d) (2739 + 26 * d) [.ref (G.1 + 84), .int v1] h (some (.int out.1)) out.2) (IH2 : ∀ (l : Launch) (v1 : Int32) (h : Hp) (out : (Int32 × Hp)), rc2 v1 h = some out → mt G l yX12_positiveOf cX12_positiveOf 7 (some .boolean) (104 + d) (2739 + 26 * d) [.ref (G.1 + 84), .int v1] h (some (.int out.1)) out.2) (IH3 : ∀ (l : Launch) (v1 : Int32) (h : Hp) (out : (Int32 × Hp)), rc3 v1 h = some out → mt G l yX12_testOf cX12_testOf 4 (some .boolean) (104 + d) (2739 + 26 * d) [.ref (G.1 + 84), .int v1] h (some (.int out.1)) out.2) {v1 : Int32} {s0 : Int32} {h : Hp} {out : ((Int32 × Int32 × Hp) ⊕ (Int32 × Hp))} (O : (O_Mod_bothOf_6 G X) out) (hm : b_Mod_bothOf_45 rc0 rc1 rc2 rc3 v1 s0 h = some out) : J G X 45 [(0, .ref (G.1 + 84)), (1, .int v1)] [.int s0] h := by
  unfold b_Mod_bothOf_45 at hm
  refine j_istore_n C [(2, .int s0), (0, .ref (G.1 + 84)), (1, .int v1)] dX12_bothOf_45 rfl (by decide) rfl ?_
  refine j_goto C 6 dX12_bothOf_46 (by decide) ?_
  obtain rfl := Option.some.inj hm
  refine j_sub (L' := [(0, .ref (G.1 + 84)), (1, .int v1), (2, .int s0)]) [1, 2, 0] rfl ?_
  exact O
theorem w_Mod_bothOf_44 {G : jG} {X : jX} {d : Nat} {rc0 : Int32 → Hp → Option (Int32 × Hp)} {rc1 : Int32 → Hp → Option (Int32 × Hp)} {rc2 : Int32 → Hp → Option (Int32 × Hp)} {rc3 : Int32 → Hp → Option (Int32 × Hp)} (C : jC G X cX12_bothOf 4 RX12 (104 + (d + 1)) (2739 + 26 * (d + 1))) (IH0 : ∀ (l : Launch) (v1 : Int32) (h : Hp) (out : (Int32 × Hp)), rc0 v1 h = some out → mt G l yX12_bothOf cX12_bothOf 4 (some .boolean) (104 + d) (2739 + 26 * d) [.ref (G.1 + 84), .int v1] h (some (.int out.1)) out.2) (IH1 : ∀ (l : Launch) (v1 : Int32) (h : Hp) (out : (Int32 × Hp)), rc1 v1 h = some out → mt G l yX12_plainOf cX12_plainOf 3 (some .boolean) (104 + d) (2739 + 26 * d) [.ref (G.1 + 84), .int v1] h (some (.int out.1)) out.2) (IH2 : ∀ (l : Launch) (v1 : Int32) (h : Hp) (out : (Int32 × Hp)), rc2 v1 h = some out → mt G l yX12_positiveOf cX12_positiveOf 7 (some .boolean) (104 + d) (2739 + 26 * d) [.ref (G.1 + 84), .int v1] h (some (.int out.1)) out.2) (IH3 : ∀ (l : Launch) (v1 : Int32) (h : Hp) (out : (Int32 × Hp)), rc3 v1 h = some out → mt G l yX12_testOf cX12_testOf 4 (some .boolean) (104 + d) (2739 + 26 * d) [.ref (G.1 + 84), .int v1] h (some (.int out.1)) out.2) {v1 : Int32} {h : Hp} {out : ((Int32 × Int32 × Hp) ⊕ (Int32 × Hp))} (O : (O_Mod_bothOf_6 G X) out) (hm : b_Mod_bothOf_44 rc0 rc1 rc2 rc3 v1 h = some out) : J G X 44 [(0, .ref (G.1 + 84)), (1, .int v1)] [] h := by
  unfold b_Mod_bothOf_44 at hm
  refine j_iconst C 0 dX12_bothOf_44 (by decide) ?_
  refine j_sub (L' := [(0, .ref (G.1 + 84)), (1, .int v1)]) [0, 1] rfl ?_
  exact w_Mod_bothOf_45 C IH0 IH1 IH2 IH3 O hm
theorem w_Mod_bothOf_28 {G : jG} {X : jX} {d : Nat} {rc0 : Int32 → Hp → Option (Int32 × Hp)} {rc1 : Int32 → Hp → Option (Int32 × Hp)} {rc2 : Int32 → Hp → Option (Int32 × Hp)} {rc3 : Int32 → Hp → Option (Int32 × Hp)} (C : jC G X cX12_bothOf 4 RX12 (104 + (d + 1)) (2739 + 26 * (d + 1))) (IH0 : ∀ (l : Launch) (v1 : Int32) (h : Hp) (out : (Int32 × Hp)), rc0 v1 h = some out → mt G l yX12_bothOf cX12_bothOf 4 (some .boolean) (104 + d) (2739 + 26 * d) [.ref (G.1 + 84), .int v1] h (some (.int out.1)) out.2) (IH1 : ∀ (l : Launch) (v1 : Int32) (h : Hp) (out : (Int32 × Hp)), rc1 v1 h = some out → mt G l yX12_plainOf cX12_plainOf 3 (some .boolean) (104 + d) (2739 + 26 * d) [.ref (G.1 + 84), .int v1] h (some (.int out.1)) out.2) (IH2 : ∀ (l : Launch) (v1 : Int32) (h : Hp) (out : (Int32 × Hp)), rc2 v1 h = some out → mt G l yX12_positiveOf cX12_positiveOf 7 (some .boolean) (104 + d) (2739 + 26 * d) [.ref (G.1 + 84), .int v1] h (some (.int out.1)) out.2) (IH3 : ∀ (l : Launch) (v1 : Int32) (h : Hp) (out : (Int32 × Hp)), rc3 v1 h = some out → mt G l yX12_testOf cX12_testOf 4 (some .boolean) (104 + d) (2739 + 26 * d) [.ref (G.1 + 84), .int v1] h (some (.int out.1)) out.2) {v1 : Int32} {v2 : Int32} {s0 : Int32} {h : Hp} {out : ((Int32 × Int32 × Hp) ⊕ (Int32 × Hp))} (O : (O_Mod_bothOf_6 G X) out) (hm : b_Mod_bothOf_28 rc0 rc1 rc2 rc3 v1 v2 s0 h = some out) : J G X 28 [(0, .ref (G.1 + 84)), (1, .int v1), (2, .int v2)] [.int s0, .ref (G.1 + 84)] h := by
  unfold b_Mod_bothOf_28 at hm
  refine j_cV C l_X12_253 [.int s0] [] (fun u1 => some (.int u1.1)) (fun u1 => u1.2) (fun u1 => [.int u1.1]) n_84 hm (fun l u hu => IH1 _ _ _ _ hu) rfl (Nat.le_of_ble_eq_true rfl) rfl (by omega) (by omega) (fun _ => rfl) dX12_bothOf_28 (fun u1 hm => ?_)
  refine j_istore_n C [(3, .int u1.1), (0, .ref (G.1 + 84)), (1, .int v1), (2, .int v2)] dX12_bothOf_31 rfl (by decide) rfl ?_
  refine j_iload_n C 3 dX12_bothOf_32 rfl rfl ?_
  refine j_ifeq C 44 dX12_bothOf_33 (by decide) hm (fun hm => ?_) (fun hm => ?_)
  · refine j_sub (L' := [(0, .ref (G.1 + 84)), (1, .int v1)]) [1, 2] rfl ?_
    exact w_Mod_bothOf_44 C IH0 IH1 IH2 IH3 O hm
  · refine j_iload_n C 0 dX12_bothOf_36 rfl rfl ?_
    refine j_ifeq C 44 dX12_bothOf_37 (by decide) hm (fun hm => ?_) (fun hm => ?_)
    · refine j_sub (L' := [(0, .ref (G.1 + 84)), (1, .int v1)]) [1, 2] rfl ?_
      exact w_Mod_bothOf_44 C IH0 IH1 IH2 IH3 O hm
    · refine j_iconst C 1 dX12_bothOf_40 (by decide) ?_
      refine j_goto C 45 dX12_bothOf_41 (by decide) ?_
      refine j_sub (L' := [(0, .ref (G.1 + 84)), (1, .int v1)]) [1, 2] rfl ?_
      exact w_Mod_bothOf_45 C IH0 IH1 IH2 IH3 O hm
theorem w_Mod_bothOf_27 {G : jG} {X : jX} {d : Nat} {rc0 : Int32 → Hp → Option (Int32 × Hp)} {rc1 : Int32 → Hp → Option (Int32 × Hp)} {rc2 : Int32 → Hp → Option (Int32 × Hp)} {rc3 : Int32 → Hp → Option (Int32 × Hp)} (C : jC G X cX12_bothOf 4 RX12 (104 + (d + 1)) (2739 + 26 * (d + 1))) (IH0 : ∀ (l : Launch) (v1 : Int32) (h : Hp) (out : (Int32 × Hp)), rc0 v1 h = some out → mt G l yX12_bothOf cX12_bothOf 4 (some .boolean) (104 + d) (2739 + 26 * d) [.ref (G.1 + 84), .int v1] h (some (.int out.1)) out.2) (IH1 : ∀ (l : Launch) (v1 : Int32) (h : Hp) (out : (Int32 × Hp)), rc1 v1 h = some out → mt G l yX12_plainOf cX12_plainOf 3 (some .boolean) (104 + d) (2739 + 26 * d) [.ref (G.1 + 84), .int v1] h (some (.int out.1)) out.2) (IH2 : ∀ (l : Launch) (v1 : Int32) (h : Hp) (out : (Int32 × Hp)), rc2 v1 h = some out → mt G l yX12_positiveOf cX12_positiveOf 7 (some .boolean) (104 + d) (2739 + 26 * d) [.ref (G.1 + 84), .int v1] h (some (.int out.1)) out.2) (IH3 : ∀ (l : Launch) (v1 : Int32) (h : Hp) (out : (Int32 × Hp)), rc3 v1 h = some out → mt G l yX12_testOf cX12_testOf 4 (some .boolean) (104 + d) (2739 + 26 * d) [.ref (G.1 + 84), .int v1] h (some (.int out.1)) out.2) {v1 : Int32} {v2 : Int32} {h : Hp} {out : ((Int32 × Int32 × Hp) ⊕ (Int32 × Hp))} (O : (O_Mod_bothOf_6 G X) out) (hm : b_Mod_bothOf_27 rc0 rc1 rc2 rc3 v1 v2 h = some out) : J G X 27 [(0, .ref (G.1 + 84)), (1, .int v1), (2, .int v2)] [.ref (G.1 + 84)] h := by
  unfold b_Mod_bothOf_27 at hm
  refine j_iconst C 0 dX12_bothOf_27 (by decide) ?_
  refine j_sub (L' := [(0, .ref (G.1 + 84)), (1, .int v1), (2, .int v2)]) [0, 1, 2] rfl ?_
  exact w_Mod_bothOf_28 C IH0 IH1 IH2 IH3 O hm
theorem w_Mod_bothOf_6 {G : jG} {X : jX} {d : Nat} {rc0 : Int32 → Hp → Option (Int32 × Hp)} {rc1 : Int32 → Hp → Option (Int32 × Hp)} {rc2 : Int32 → Hp → Option (Int32 × Hp)} {rc3 : Int32 → Hp → Option (Int32 × Hp)} (C : jC G X cX12_bothOf 4 RX12 (104 + (d + 1)) (2739 + 26 * (d + 1))) (IH0 : ∀ (l : Launch) (v1 : Int32) (h : Hp) (out : (Int32 × Hp)), rc0 v1 h = some out → mt G l yX12_bothOf cX12_bothOf 4 (some .boolean) (104 + d) (2739 + 26 * d) [.ref (G.1 + 84), .int v1] h (some (.int out.1)) out.2) (IH1 : ∀ (l : Launch) (v1 : Int32) (h : Hp) (out : (Int32 × Hp)), rc1 v1 h = some out → mt G l yX12_plainOf cX12_plainOf 3 (some .boolean) (104 + d) (2739 + 26 * d) [.ref (G.1 + 84), .int v1] h (some (.int out.1)) out.2) (IH2 : ∀ (l : Launch) (v1 : Int32) (h : Hp) (out : (Int32 × Hp)), rc2 v1 h = some out → mt G l yX12_positiveOf cX12_positiveOf 7 (some .boolean) (104 + d) (2739 + 26 * d) [.ref (G.1 + 84), .int v1] h (some (.int out.1)) out.2) (IH3 : ∀ (l : Launch) (v1 : Int32) (h : Hp) (out : (Int32 × Hp)), rc3 v1 h = some out → mt G l yX12_testOf cX12_testOf 4 (some .boolean) (104 + d) (2739 + 26 * d) [.ref (G.1 + 84), .int v1] h (some (.int out.1)) out.2) {v1 : Int32} {v2 : Int32} {h : Hp} {out : ((Int32 × Int32 × Hp) ⊕ (Int32 × Hp))} (O : (O_Mod_bothOf_6 G X) out) (hm : b_Mod_bothOf_6 rc0 rc1 rc2 rc3 v1 v2 h = some out) : J G X 6 [(0, .ref (G.1 + 84)), (1, .int v1), (2, .int v2)] [] h := by
  unfold b_Mod_bothOf_6 at hm
  refine j_aload_n C 0 dX12_bothOf_6 rfl rfl ?_
  refine j_iconst C 5 dX12_bothOf_7 (by decide) ?_
  refine j_cV C l_X12_243 [.int ((5 : Int32))] [] (fun u1 => some (.int u1.1)) (fun u1 => u1.2) (fun u1 => [.int u1.1]) n_84 hm (fun l u hu => c_Mod_passes0 hu) rfl (Nat.le_of_ble_eq_true rfl) rfl (by omega) (by omega) (fun _ => rfl) dX12_bothOf_8 (fun u1 hm => ?_)
  refine j_ifeq C 49 dX12_bothOf_11 (by decide) hm (fun hm => ?_) (fun hm => ?_)
  · refine j_iload_n C 2 dX12_bothOf_49 rfl rfl ?_
    obtain ⟨cz, hm⟩ := bz_inv hm
    obtain rfl := Option.some.inj hm
    exact j_zret C O cz dX12_bothOf_50
  · refine j_aload_n C 0 dX12_bothOf_14 rfl rfl ?_
    refine j_iload_n C 1 dX12_bothOf_15 rfl rfl ?_
    refine j_ifeq C 27 dX12_bothOf_16 (by decide) hm (fun hm => ?_) (fun hm => ?_)
    · refine j_sub (L' := [(0, .ref (G.1 + 84)), (1, .int v1), (2, .int v2)]) [0, 1, 2] rfl ?_
      exact w_Mod_bothOf_27 C IH0 IH1 IH2 IH3 O hm
    · refine j_iload_n C 2 dX12_bothOf_19 rfl rfl ?_
      refine j_ifeq C 27 dX12_bothOf_20 (by decide) hm (fun hm => ?_) (fun hm => ?_)
      · refine j_sub (L' := [(0, .ref (G.1 + 84)), (1, .int v1), (2, .int v2)]) [0, 1, 2] rfl ?_
        exact w_Mod_bothOf_27 C IH0 IH1 IH2 IH3 O hm
      · refine j_iconst C 1 dX12_bothOf_23 (by decide) ?_
        refine j_goto C 28 dX12_bothOf_24 (by decide) ?_
        refine j_sub (L' := [(0, .ref (G.1 + 84)), (1, .int v1), (2, .int v2)]) [0, 1, 2] rfl ?_
        exact w_Mod_bothOf_28 C IH0 IH1 IH2 IH3 O hm
theorem k_Mod_bothOf_6 {G : jG} {X : jX} {d : Nat} {rc0 : Int32 → Hp → Option (Int32 × Hp)} {rc1 : Int32 → Hp → Option (Int32 × Hp)} {rc2 : Int32 → Hp → Option (Int32 × Hp)} {rc3 : Int32 → Hp → Option (Int32 × Hp)} (C : jC G X cX12_bothOf 4 RX12 (104 + (d + 1)) (2739 + 26 * (d + 1))) (IH0 : ∀ (l : Launch) (v1 : Int32) (h : Hp) (out : (Int32 × Hp)), rc0 v1 h = some out → mt G l yX12_bothOf cX12_bothOf 4 (some .boolean) (104 + d) (2739 + 26 * d) [.ref (G.1 + 84), .int v1] h (some (.int out.1)) out.2) (IH1 : ∀ (l : Launch) (v1 : Int32) (h : Hp) (out : (Int32 × Hp)), rc1 v1 h = some out → mt G l yX12_plainOf cX12_plainOf 3 (some .boolean) (104 + d) (2739 + 26 * d) [.ref (G.1 + 84), .int v1] h (some (.int out.1)) out.2) (IH2 : ∀ (l : Launch) (v1 : Int32) (h : Hp) (out : (Int32 × Hp)), rc2 v1 h = some out → mt G l yX12_positiveOf cX12_positiveOf 7 (some .boolean) (104 + d) (2739 + 26 * d) [.ref (G.1 + 84), .int v1] h (some (.int out.1)) out.2) (IH3 : ∀ (l : Launch) (v1 : Int32) (h : Hp) (out : (Int32 × Hp)), rc3 v1 h = some out → mt G l yX12_testOf cX12_testOf 4 (some .boolean) (104 + d) (2739 + 26 * d) [.ref (G.1 + 84), .int v1] h (some (.int out.1)) out.2) {v1 : Int32} {v2 : Int32} {h : Hp} {out : (Int32 × Hp)} (O : (O_Mod_bothOf G X) out) (hm : lp (fun q => b_Mod_bothOf_6 rc0 rc1 rc2 rc3 q.1 q.2.1 q.2.2) (v1, v2, h) = some out) : J G X 6 [(0, .ref (G.1 + 84)), (1, .int v1), (2, .int v2)] [] h :=
  lp_ok (P := P_Mod_bothOf_6 G X) (O := (O_Mod_bothOf G X)) (fun q r hm O => w_Mod_bothOf_6 C IH0 IH1 IH2 IH3 O hm) hm O
theorem w_Mod_bothOf {G : jG} {X : jX} {d : Nat} {rc0 : Int32 → Hp → Option (Int32 × Hp)} {rc1 : Int32 → Hp → Option (Int32 × Hp)} {rc2 : Int32 → Hp → Option (Int32 × Hp)} {rc3 : Int32 → Hp → Option (Int32 × Hp)} (C : jC G X cX12_bothOf 4 RX12 (104 + (d + 1)) (2739 + 26 * (d + 1))) (IH0 : ∀ (l : Launch) (v1 : Int32) (h : Hp) (out : (Int32 × Hp)), rc0 v1 h = some out → mt G l yX12_bothOf cX12_bothOf 4 (some .boolean) (104 + d) (2739 + 26 * d) [.ref (G.1 + 84), .int v1] h (some (.int out.1)) out.2) (IH1 : ∀ (l : Launch) (v1 : Int32) (h : Hp) (out : (Int32 × Hp)), rc1 v1 h = some out → mt G l yX12_plainOf cX12_plainOf 3 (some .boolean) (104 + d) (2739 + 26 * d) [.ref (G.1 + 84), .int v1] h (some (.int out.1)) out.2) (IH2 : ∀ (l : Launch) (v1 : Int32) (h : Hp) (out : (Int32 × Hp)), rc2 v1 h = some out → mt G l yX12_positiveOf cX12_positiveOf 7 (some .boolean) (104 + d) (2739 + 26 * d) [.ref (G.1 + 84), .int v1] h (some (.int out.1)) out.2) (IH3 : ∀ (l : Launch) (v1 : Int32) (h : Hp) (out : (Int32 × Hp)), rc3 v1 h = some out → mt G l yX12_testOf cX12_testOf 4 (some .boolean) (104 + d) (2739 + 26 * d) [.ref (G.1 + 84), .int v1] h (some (.int out.1)) out.2) {v1 : Int32} {h : Hp} {out : (Int32 × Hp)} (O : (O_Mod_bothOf G X) out) (hm : b_Mod_bothOf rc0 rc1 rc2 rc3 v1 h = some out) : J G X 0 [(0, .ref (G.1 + 84)), (1, .int v1)] [] h := by
  unfold b_Mod_bothOf at hm
  refine j_aload_n C 0 dX12_bothOf_0 rfl rfl ?_
  refine j_iload_n C 1 dX12_bothOf_1 rfl rfl ?_
  refine j_cV C l_X12_253 [.int v1] [] (fun u1 => some (.int u1.1)) (fun u1 => u1.2) (fun u1 => [.int u1.1]) n_84 hm (fun l u hu => IH1 _ _ _ _ hu) rfl (Nat.le_of_ble_eq_true rfl) rfl (by omega) (by omega) (fun _ => rfl) dX12_bothOf_2 (fun u1 hm => ?_)
  refine j_istore_n C [(2, .int u1.1), (0, .ref (G.1 + 84)), (1, .int v1)] dX12_bothOf_5 rfl (by decide) rfl ?_
  refine j_sub (L' := [(0, .ref (G.1 + 84)), (1, .int v1), (2, .int u1.1)]) [1, 2, 0] rfl ?_
  exact k_Mod_bothOf_6 C IH0 IH1 IH2 IH3 O hm
theorem w_Mod_plainOf_20 {G : jG} {X : jX} {d : Nat} {rc0 : Int32 → Hp → Option (Int32 × Hp)} {rc1 : Int32 → Hp → Option (Int32 × Hp)} {rc2 : Int32 → Hp → Option (Int32 × Hp)} {rc3 : Int32 → Hp → Option (Int32 × Hp)} (C : jC G X cX12_plainOf 3 RX12 (104 + (d + 1)) (2739 + 26 * (d + 1))) (IH0 : ∀ (l : Launch) (v1 : Int32) (h : Hp) (out : (Int32 × Hp)), rc0 v1 h = some out → mt G l yX12_bothOf cX12_bothOf 4 (some .boolean) (104 + d) (2739 + 26 * d) [.ref (G.1 + 84), .int v1] h (some (.int out.1)) out.2) (IH1 : ∀ (l : Launch) (v1 : Int32) (h : Hp) (out : (Int32 × Hp)), rc1 v1 h = some out → mt G l yX12_plainOf cX12_plainOf 3 (some .boolean) (104 + d) (2739 + 26 * d) [.ref (G.1 + 84), .int v1] h (some (.int out.1)) out.2) (IH2 : ∀ (l : Launch) (v1 : Int32) (h : Hp) (out : (Int32 × Hp)), rc2 v1 h = some out → mt G l yX12_positiveOf cX12_positiveOf 7 (some .boolean) (104 + d) (2739 + 26 * d) [.ref (G.1 + 84), .int v1] h (some (.int out.1)) out.2) (IH3 : ∀ (l : Launch) (v1 : Int32) (h : Hp) (out : (Int32 × Hp)), rc3 v1 h = some out → mt G l yX12_testOf cX12_testOf 4 (some .boolean) (104 + d) (2739 + 26 * d) [.ref (G.1 + 84), .int v1] h (some (.int out.1)) out.2) {v1 : Int32} {s0 : Int32} {h : Hp} {out : ((Int32 × Int32 × Hp) ⊕ (Int32 × Hp))} (O : (O_Mod_plainOf_2 G X) out) (hm : b_Mod_plainOf_20 rc0 rc1 rc2 rc3 v1 s0 h = some out) : J G X 20 [(0, .ref (G.1 + 84)), (1, .int v1)] [.int s0] h := by
  unfold b_Mod_plainOf_20 at hm
  refine j_istore_n C [(2, .int s0), (0, .ref (G.1 + 84)), (1, .int v1)] dX12_plainOf_20 rfl (by decide) rfl ?_
  refine j_goto C 2 dX12_plainOf_21 (by decide) ?_
  obtain rfl := Option.some.inj hm
  refine j_sub (L' := [(0, .ref (G.1 + 84)), (1, .int v1), (2, .int s0)]) [1, 2, 0] rfl ?_
  exact O
theorem w_Mod_plainOf_38 {G : jG} {X : jX} {d : Nat} {rc0 : Int32 → Hp → Option (Int32 × Hp)} {rc1 : Int32 → Hp → Option (Int32 × Hp)} {rc2 : Int32 → Hp → Option (Int32 × Hp)} {rc3 : Int32 → Hp → Option (Int32 × Hp)} (C : jC G X cX12_plainOf 3 RX12 (104 + (d + 1)) (2739 + 26 * (d + 1))) (IH0 : ∀ (l : Launch) (v1 : Int32) (h : Hp) (out : (Int32 × Hp)), rc0 v1 h = some out → mt G l yX12_bothOf cX12_bothOf 4 (some .boolean) (104 + d) (2739 + 26 * d) [.ref (G.1 + 84), .int v1] h (some (.int out.1)) out.2) (IH1 : ∀ (l : Launch) (v1 : Int32) (h : Hp) (out : (Int32 × Hp)), rc1 v1 h = some out → mt G l yX12_plainOf cX12_plainOf 3 (some .boolean) (104 + d) (2739 + 26 * d) [.ref (G.1 + 84), .int v1] h (some (.int out.1)) out.2) (IH2 : ∀ (l : Launch) (v1 : Int32) (h : Hp) (out : (Int32 × Hp)), rc2 v1 h = some out → mt G l yX12_positiveOf cX12_positiveOf 7 (some .boolean) (104 + d) (2739 + 26 * d) [.ref (G.1 + 84), .int v1] h (some (.int out.1)) out.2) (IH3 : ∀ (l : Launch) (v1 : Int32) (h : Hp) (out : (Int32 × Hp)), rc3 v1 h = some out → mt G l yX12_testOf cX12_testOf 4 (some .boolean) (104 + d) (2739 + 26 * d) [.ref (G.1 + 84), .int v1] h (some (.int out.1)) out.2) {s0 : Int32} {h : Hp} {out : (Int32 × Hp)} (O : (O_Mod_plainOf G X) out) (hm : b_Mod_plainOf_38 rc0 rc1 rc2 rc3 s0 h = some out) : J G X 38 [] [.int s0] h := by
  unfold b_Mod_plainOf_38 at hm
  obtain ⟨cz, hm⟩ := bz_inv hm
  obtain rfl := Option.some.inj hm
  exact j_zret C O cz dX12_plainOf_38
theorem w_Mod_plainOf_2 {G : jG} {X : jX} {d : Nat} {rc0 : Int32 → Hp → Option (Int32 × Hp)} {rc1 : Int32 → Hp → Option (Int32 × Hp)} {rc2 : Int32 → Hp → Option (Int32 × Hp)} {rc3 : Int32 → Hp → Option (Int32 × Hp)} (C : jC G X cX12_plainOf 3 RX12 (104 + (d + 1)) (2739 + 26 * (d + 1))) (IH0 : ∀ (l : Launch) (v1 : Int32) (h : Hp) (out : (Int32 × Hp)), rc0 v1 h = some out → mt G l yX12_bothOf cX12_bothOf 4 (some .boolean) (104 + d) (2739 + 26 * d) [.ref (G.1 + 84), .int v1] h (some (.int out.1)) out.2) (IH1 : ∀ (l : Launch) (v1 : Int32) (h : Hp) (out : (Int32 × Hp)), rc1 v1 h = some out → mt G l yX12_plainOf cX12_plainOf 3 (some .boolean) (104 + d) (2739 + 26 * d) [.ref (G.1 + 84), .int v1] h (some (.int out.1)) out.2) (IH2 : ∀ (l : Launch) (v1 : Int32) (h : Hp) (out : (Int32 × Hp)), rc2 v1 h = some out → mt G l yX12_positiveOf cX12_positiveOf 7 (some .boolean) (104 + d) (2739 + 26 * d) [.ref (G.1 + 84), .int v1] h (some (.int out.1)) out.2) (IH3 : ∀ (l : Launch) (v1 : Int32) (h : Hp) (out : (Int32 × Hp)), rc3 v1 h = some out → mt G l yX12_testOf cX12_testOf 4 (some .boolean) (104 + d) (2739 + 26 * d) [.ref (G.1 + 84), .int v1] h (some (.int out.1)) out.2) {v1 : Int32} {v2 : Int32} {h : Hp} {out : ((Int32 × Int32 × Hp) ⊕ (Int32 × Hp))} (O : (O_Mod_plainOf_2 G X) out) (hm : b_Mod_plainOf_2 rc0 rc1 rc2 rc3 v1 v2 h = some out) : J G X 2 [(0, .ref (G.1 + 84)), (1, .int v1), (2, .int v2)] [] h := by
  unfold b_Mod_plainOf_2 at hm
  refine j_aload_n C 0 dX12_plainOf_2 rfl rfl ?_
  refine j_bipush C 6 dX12_plainOf_3 (by decide) ?_
  refine j_cV C l_X12_243 [.int ((6 : Int32))] [] (fun u1 => some (.int u1.1)) (fun u1 => u1.2) (fun u1 => [.int u1.1]) n_84 hm (fun l u hu => c_Mod_passes0 hu) rfl (Nat.le_of_ble_eq_true rfl) rfl (by omega) (by omega) (fun _ => rfl) dX12_plainOf_5 (fun u1 hm => ?_)
  refine j_ifeq C 24 dX12_plainOf_8 (by decide) hm (fun hm => ?_) (fun hm => ?_)
  · refine j_aload_n C 0 dX12_plainOf_24 rfl rfl ?_
    refine j_iload_n C 1 dX12_plainOf_25 rfl rfl ?_
    refine j_cV C l_X12_256 [.int v1] [] (fun u2 => some (.int u2.1)) (fun u2 => u2.2) (fun u2 => [.int u2.1]) n_84 hm (fun l u hu => IH2 _ _ _ _ hu) rfl (Nat.le_of_ble_eq_true rfl) rfl (by omega) (by omega) (fun _ => rfl) dX12_plainOf_26 (fun u2 hm => ?_)
    refine j_iload_n C 2 dX12_plainOf_29 rfl rfl ?_
    refine j_if_icmpeq C 37 dX12_plainOf_30 (by decide) hm (fun hm => ?_) (fun hm => ?_)
    · refine j_iconst C 0 dX12_plainOf_37 (by decide) ?_
      obtain ⟨o_0, hm_0, rfl⟩ := inr_inv hm
      refine j_sub (L' := []) [] rfl ?_
      exact w_Mod_plainOf_38 C IH0 IH1 IH2 IH3 O hm_0
    · refine j_iconst C 1 dX12_plainOf_33 (by decide) ?_
      refine j_goto C 38 dX12_plainOf_34 (by decide) ?_
      obtain ⟨o_0, hm_0, rfl⟩ := inr_inv hm
      refine j_sub (L' := []) [] rfl ?_
      exact w_Mod_plainOf_38 C IH0 IH1 IH2 IH3 O hm_0
  · refine j_iload_n C 2 dX12_plainOf_11 rfl rfl ?_
    refine j_ifne C 19 dX12_plainOf_12 (by decide) hm (fun hm => ?_) (fun hm => ?_)
    · refine j_iconst C 1 dX12_plainOf_15 (by decide) ?_
      refine j_goto C 20 dX12_plainOf_16 (by decide) ?_
      refine j_sub (L' := [(0, .ref (G.1 + 84)), (1, .int v1)]) [0, 1] rfl ?_
      exact w_Mod_plainOf_20 C IH0 IH1 IH2 IH3 O hm
    · refine j_iconst C 0 dX12_plainOf_19 (by decide) ?_
      refine j_sub (L' := [(0, .ref (G.1 + 84)), (1, .int v1)]) [0, 1] rfl ?_
      exact w_Mod_plainOf_20 C IH0 IH1 IH2 IH3 O hm
theorem k_Mod_plainOf_2 {G : jG} {X : jX} {d : Nat} {rc0 : Int32 → Hp → Option (Int32 × Hp)} {rc1 : Int32 → Hp → Option (Int32 × Hp)} {rc2 : Int32 → Hp → Option (Int32 × Hp)} {rc3 : Int32 → Hp → Option (Int32 × Hp)} (C : jC G X cX12_plainOf 3 RX12 (104 + (d + 1)) (2739 + 26 * (d + 1))) (IH0 : ∀ (l : Launch) (v1 : Int32) (h : Hp) (out : (Int32 × Hp)), rc0 v1 h = some out → mt G l yX12_bothOf cX12_bothOf 4 (some .boolean) (104 + d) (2739 + 26 * d) [.ref (G.1 + 84), .int v1] h (some (.int out.1)) out.2) (IH1 : ∀ (l : Launch) (v1 : Int32) (h : Hp) (out : (Int32 × Hp)), rc1 v1 h = some out → mt G l yX12_plainOf cX12_plainOf 3 (some .boolean) (104 + d) (2739 + 26 * d) [.ref (G.1 + 84), .int v1] h (some (.int out.1)) out.2) (IH2 : ∀ (l : Launch) (v1 : Int32) (h : Hp) (out : (Int32 × Hp)), rc2 v1 h = some out → mt G l yX12_positiveOf cX12_positiveOf 7 (some .boolean) (104 + d) (2739 + 26 * d) [.ref (G.1 + 84), .int v1] h (some (.int out.1)) out.2) (IH3 : ∀ (l : Launch) (v1 : Int32) (h : Hp) (out : (Int32 × Hp)), rc3 v1 h = some out → mt G l yX12_testOf cX12_testOf 4 (some .boolean) (104 + d) (2739 + 26 * d) [.ref (G.1 + 84), .int v1] h (some (.int out.1)) out.2) {v1 : Int32} {v2 : Int32} {h : Hp} {out : (Int32 × Hp)} (O : (O_Mod_plainOf G X) out) (hm : lp (fun q => b_Mod_plainOf_2 rc0 rc1 rc2 rc3 q.1 q.2.1 q.2.2) (v1, v2, h) = some out) : J G X 2 [(0, .ref (G.1 + 84)), (1, .int v1), (2, .int v2)] [] h :=
  lp_ok (P := P_Mod_plainOf_2 G X) (O := (O_Mod_plainOf G X)) (fun q r hm O => w_Mod_plainOf_2 C IH0 IH1 IH2 IH3 O hm) hm O
theorem w_Mod_plainOf {G : jG} {X : jX} {d : Nat} {rc0 : Int32 → Hp → Option (Int32 × Hp)} {rc1 : Int32 → Hp → Option (Int32 × Hp)} {rc2 : Int32 → Hp → Option (Int32 × Hp)} {rc3 : Int32 → Hp → Option (Int32 × Hp)} (C : jC G X cX12_plainOf 3 RX12 (104 + (d + 1)) (2739 + 26 * (d + 1))) (IH0 : ∀ (l : Launch) (v1 : Int32) (h : Hp) (out : (Int32 × Hp)), rc0 v1 h = some out → mt G l yX12_bothOf cX12_bothOf 4 (some .boolean) (104 + d) (2739 + 26 * d) [.ref (G.1 + 84), .int v1] h (some (.int out.1)) out.2) (IH1 : ∀ (l : Launch) (v1 : Int32) (h : Hp) (out : (Int32 × Hp)), rc1 v1 h = some out → mt G l yX12_plainOf cX12_plainOf 3 (some .boolean) (104 + d) (2739 + 26 * d) [.ref (G.1 + 84), .int v1] h (some (.int out.1)) out.2) (IH2 : ∀ (l : Launch) (v1 : Int32) (h : Hp) (out : (Int32 × Hp)), rc2 v1 h = some out → mt G l yX12_positiveOf cX12_positiveOf 7 (some .boolean) (104 + d) (2739 + 26 * d) [.ref (G.1 + 84), .int v1] h (some (.int out.1)) out.2) (IH3 : ∀ (l : Launch) (v1 : Int32) (h : Hp) (out : (Int32 × Hp)), rc3 v1 h = some out → mt G l yX12_testOf cX12_testOf 4 (some .boolean) (104 + d) (2739 + 26 * d) [.ref (G.1 + 84), .int v1] h (some (.int out.1)) out.2) {v1 : Int32} {h : Hp} {out : (Int32 × Hp)} (O : (O_Mod_plainOf G X) out) (hm : b_Mod_plainOf rc0 rc1 rc2 rc3 v1 h = some out) : J G X 0 [(0, .ref (G.1 + 84)), (1, .int v1)] [] h := by
  unfold b_Mod_plainOf at hm
  refine j_iconst C 0 dX12_plainOf_0 (by decide) ?_
  refine j_istore_n C [(2, .int ((0 : Int32))), (0, .ref (G.1 + 84)), (1, .int v1)] dX12_plainOf_1 rfl (by decide) rfl ?_
  refine j_sub (L' := [(0, .ref (G.1 + 84)), (1, .int v1), (2, .int ((0 : Int32)))]) [1, 2, 0] rfl ?_
  exact k_Mod_plainOf_2 C IH0 IH1 IH2 IH3 O hm
theorem w_Mod_positiveOf_126 {G : jG} {X : jX} {d : Nat} {rc0 : Int32 → Hp → Option (Int32 × Hp)} {rc1 : Int32 → Hp → Option (Int32 × Hp)} {rc2 : Int32 → Hp → Option (Int32 × Hp)} {rc3 : Int32 → Hp → Option (Int32 × Hp)} (C : jC G X cX12_positiveOf 7 RX12 (104 + (d + 1)) (2739 + 26 * (d + 1))) (IH0 : ∀ (l : Launch) (v1 : Int32) (h : Hp) (out : (Int32 × Hp)), rc0 v1 h = some out → mt G l yX12_bothOf cX12_bothOf 4 (some .boolean) (104 + d) (2739 + 26 * d) [.ref (G.1 + 84), .int v1] h (some (.int out.1)) out.2) (IH1 : ∀ (l : Launch) (v1 : Int32) (h : Hp) (out : (Int32 × Hp)), rc1 v1 h = some out → mt G l yX12_plainOf cX12_plainOf 3 (some .boolean) (104 + d) (2739 + 26 * d) [.ref (G.1 + 84), .int v1] h (some (.int out.1)) out.2) (IH2 : ∀ (l : Launch) (v1 : Int32) (h : Hp) (out : (Int32 × Hp)), rc2 v1 h = some out → mt G l yX12_positiveOf cX12_positiveOf 7 (some .boolean) (104 + d) (2739 + 26 * d) [.ref (G.1 + 84), .int v1] h (some (.int out.1)) out.2) (IH3 : ∀ (l : Launch) (v1 : Int32) (h : Hp) (out : (Int32 × Hp)), rc3 v1 h = some out → mt G l yX12_testOf cX12_testOf 4 (some .boolean) (104 + d) (2739 + 26 * d) [.ref (G.1 + 84), .int v1] h (some (.int out.1)) out.2) {s0 : Int32} {h : Hp} {out : (Int32 × Hp)} (O : (O_Mod_positiveOf G X) out) (hm : b_Mod_positiveOf_126 rc0 rc1 rc2 rc3 s0 h = some out) : J G X 126 [] [.int s0] h := by
  unfold b_Mod_positiveOf_126 at hm
  obtain ⟨cz, hm⟩ := bz_inv hm
  obtain rfl := Option.some.inj hm
  exact j_zret C O cz dX12_positiveOf_126
theorem w_Mod_positiveOf_121 {G : jG} {X : jX} {d : Nat} {rc0 : Int32 → Hp → Option (Int32 × Hp)} {rc1 : Int32 → Hp → Option (Int32 × Hp)} {rc2 : Int32 → Hp → Option (Int32 × Hp)} {rc3 : Int32 → Hp → Option (Int32 × Hp)} (C : jC G X cX12_positiveOf 7 RX12 (104 + (d + 1)) (2739 + 26 * (d + 1))) (IH0 : ∀ (l : Launch) (v1 : Int32) (h : Hp) (out : (Int32 × Hp)), rc0 v1 h = some out → mt G l yX12_bothOf cX12_bothOf 4 (some .boolean) (104 + d) (2739 + 26 * d) [.ref (G.1 + 84), .int v1] h (some (.int out.1)) out.2) (IH1 : ∀ (l : Launch) (v1 : Int32) (h : Hp) (out : (Int32 × Hp)), rc1 v1 h = some out → mt G l yX12_plainOf cX12_plainOf 3 (some .boolean) (104 + d) (2739 + 26 * d) [.ref (G.1 + 84), .int v1] h (some (.int out.1)) out.2) (IH2 : ∀ (l : Launch) (v1 : Int32) (h : Hp) (out : (Int32 × Hp)), rc2 v1 h = some out → mt G l yX12_positiveOf cX12_positiveOf 7 (some .boolean) (104 + d) (2739 + 26 * d) [.ref (G.1 + 84), .int v1] h (some (.int out.1)) out.2) (IH3 : ∀ (l : Launch) (v1 : Int32) (h : Hp) (out : (Int32 × Hp)), rc3 v1 h = some out → mt G l yX12_testOf cX12_testOf 4 (some .boolean) (104 + d) (2739 + 26 * d) [.ref (G.1 + 84), .int v1] h (some (.int out.1)) out.2) {h : Hp} {out : (Int32 × Hp)} (O : (O_Mod_positiveOf G X) out) (hm : b_Mod_positiveOf_121 rc0 rc1 rc2 rc3 h = some out) : J G X 121 [] [] h := by
  unfold b_Mod_positiveOf_121 at hm
  refine j_iconst C 1 dX12_positiveOf_121 (by decide) ?_
  refine j_goto C 126 dX12_positiveOf_122 (by decide) ?_
  refine j_sub (L' := []) [] rfl ?_
  exact w_Mod_positiveOf_126 C IH0 IH1 IH2 IH3 O hm
theorem w_Mod_positiveOf_125 {G : jG} {X : jX} {d : Nat} {rc0 : Int32 → Hp → Option (Int32 × Hp)} {rc1 : Int32 → Hp → Option (Int32 × Hp)} {rc2 : Int32 → Hp → Option (Int32 × Hp)} {rc3 : Int32 → Hp → Option (Int32 × Hp)} (C : jC G X cX12_positiveOf 7 RX12 (104 + (d + 1)) (2739 + 26 * (d + 1))) (IH0 : ∀ (l : Launch) (v1 : Int32) (h : Hp) (out : (Int32 × Hp)), rc0 v1 h = some out → mt G l yX12_bothOf cX12_bothOf 4 (some .boolean) (104 + d) (2739 + 26 * d) [.ref (G.1 + 84), .int v1] h (some (.int out.1)) out.2) (IH1 : ∀ (l : Launch) (v1 : Int32) (h : Hp) (out : (Int32 × Hp)), rc1 v1 h = some out → mt G l yX12_plainOf cX12_plainOf 3 (some .boolean) (104 + d) (2739 + 26 * d) [.ref (G.1 + 84), .int v1] h (some (.int out.1)) out.2) (IH2 : ∀ (l : Launch) (v1 : Int32) (h : Hp) (out : (Int32 × Hp)), rc2 v1 h = some out → mt G l yX12_positiveOf cX12_positiveOf 7 (some .boolean) (104 + d) (2739 + 26 * d) [.ref (G.1 + 84), .int v1] h (some (.int out.1)) out.2) (IH3 : ∀ (l : Launch) (v1 : Int32) (h : Hp) (out : (Int32 × Hp)), rc3 v1 h = some out → mt G l yX12_testOf cX12_testOf 4 (some .boolean) (104 + d) (2739 + 26 * d) [.ref (G.1 + 84), .int v1] h (some (.int out.1)) out.2) {h : Hp} {out : (Int32 × Hp)} (O : (O_Mod_positiveOf G X) out) (hm : b_Mod_positiveOf_125 rc0 rc1 rc2 rc3 h = some out) : J G X 125 [] [] h := by
  unfold b_Mod_positiveOf_125 at hm
  refine j_iconst C 0 dX12_positiveOf_125 (by decide) ?_
  refine j_sub (L' := []) [] rfl ?_
  exact w_Mod_positiveOf_126 C IH0 IH1 IH2 IH3 O hm
theorem w_Mod_positiveOf {G : jG} {X : jX} {d : Nat} {rc0 : Int32 → Hp → Option (Int32 × Hp)} {rc1 : Int32 → Hp → Option (Int32 × Hp)} {rc2 : Int32 → Hp → Option (Int32 × Hp)} {rc3 : Int32 → Hp → Option (Int32 × Hp)} (C : jC G X cX12_positiveOf 7 RX12 (104 + (d + 1)) (2739 + 26 * (d + 1))) (IH0 : ∀ (l : Launch) (v1 : Int32) (h : Hp) (out : (Int32 × Hp)), rc0 v1 h = some out → mt G l yX12_bothOf cX12_bothOf 4 (some .boolean) (104 + d) (2739 + 26 * d) [.ref (G.1 + 84), .int v1] h (some (.int out.1)) out.2) (IH1 : ∀ (l : Launch) (v1 : Int32) (h : Hp) (out : (Int32 × Hp)), rc1 v1 h = some out → mt G l yX12_plainOf cX12_plainOf 3 (some .boolean) (104 + d) (2739 + 26 * d) [.ref (G.1 + 84), .int v1] h (some (.int out.1)) out.2) (IH2 : ∀ (l : Launch) (v1 : Int32) (h : Hp) (out : (Int32 × Hp)), rc2 v1 h = some out → mt G l yX12_positiveOf cX12_positiveOf 7 (some .boolean) (104 + d) (2739 + 26 * d) [.ref (G.1 + 84), .int v1] h (some (.int out.1)) out.2) (IH3 : ∀ (l : Launch) (v1 : Int32) (h : Hp) (out : (Int32 × Hp)), rc3 v1 h = some out → mt G l yX12_testOf cX12_testOf 4 (some .boolean) (104 + d) (2739 + 26 * d) [.ref (G.1 + 84), .int v1] h (some (.int out.1)) out.2) {v1 : Int32} {h : Hp} {out : (Int32 × Hp)} (O : (O_Mod_positiveOf G X) out) (hm : b_Mod_positiveOf rc0 rc1 rc2 rc3 v1 h = some out) : J G X 0 [(0, .ref (G.1 + 84)), (1, .int v1)] [] h := by
  unfold b_Mod_positiveOf at hm
  refine j_aload_n C 0 dX12_positiveOf_0 rfl rfl ?_
  refine j_bipush C 40 dX12_positiveOf_1 (by decide) ?_
  refine j_cS C l_X12_193 [.int ((40 : Int32))] [.ref (G.1 + 84)] (fun u1 => some (.int u1)) (fun _ => h) (fun u1 => [.int u1, .ref (G.1 + 84)]) hm (fun l u hu => c_Mod_sign hu) rfl (Nat.le_of_ble_eq_true rfl) rfl (by omega) (by omega) (fun _ => rfl) dX12_positiveOf_3 (fun u1 hm => ?_)
  refine j_cV C l_X12_243 [.int u1] [] (fun u2 => some (.int u2.1)) (fun u2 => u2.2) (fun u2 => [.int u2.1]) n_84 hm (fun l u hu => c_Mod_passes0 hu) rfl (Nat.le_of_ble_eq_true rfl) rfl (by omega) (by omega) (fun _ => rfl) dX12_positiveOf_6 (fun u2 hm => ?_)
  refine j_ifeq C 30 dX12_positiveOf_9 (by decide) hm (fun hm => ?_) (fun hm => ?_)
  · refine j_aload_n C 0 dX12_positiveOf_30 rfl rfl ?_
    refine j_iload_n C 1 dX12_positiveOf_31 rfl rfl ?_
    refine j_cV C l_X12_246 [.int v1] [] (fun u3 => some (.long u3.1)) (fun u3 => u3.2) (fun u3 => [.long u3.1]) n_84 hm (fun l u hu => c_Mod_sumOf hu) rfl (Nat.le_of_ble_eq_true rfl) rfl (by omega) (by omega) (fun _ => rfl) dX12_positiveOf_32 (fun u3 hm => ?_)
    refine j_lstore_n C [(2, .long u3.1), (0, .ref (G.1 + 84)), (1, .int v1)] dX12_positiveOf_35 rfl (by decide) rfl ?_
    refine j_aload_n C 1 dX12_positiveOf_36 rfl rfl ?_
    refine j_aload_n C 1 dX12_positiveOf_37 rfl rfl ?_
    refine j_gI C f_X12_218 n_84 dX12_positiveOf_38 ?_
    refine j_cV C l_X12_221 [.int (hI u3.2 84 19)] [] (fun u4 => some (.int u4)) (fun _ => u3.2) (fun u4 => [.int u4]) n_84 hm (fun l u hu => c_Mod_codeAt hu) rfl (Nat.le_of_ble_eq_true rfl) rfl (by omega) (by omega) (fun _ => rfl) dX12_positiveOf_41 (fun u4 hm => ?_)
    refine j_istore C [(4, .int u4), (2, .long u3.1), (0, .ref (G.1 + 84)), (1, .int v1)] dX12_positiveOf_44 (by decide) rfl ?_
    refine j_aload_n C 2 dX12_positiveOf_46 rfl rfl ?_
    refine j_dup C dX12_positiveOf_47 rfl ?_
    refine j_gI C f_X12_218 n_84 dX12_positiveOf_48 ?_
    refine j_iconst C 1 dX12_positiveOf_51 (by decide) ?_
    refine j_iadd C dX12_positiveOf_52 ?_
    refine j_pI C f_X12_218 n_84 dX12_positiveOf_53 ?_
    refine j_aload_n C 2 dX12_positiveOf_56 rfl rfl ?_
    refine j_iload_n C 3 dX12_positiveOf_57 rfl rfl ?_
    refine j_cV C l_X12_246 [.int v1] [] (fun u5 => some (.long u5.1)) (fun u5 => u5.2) (fun u5 => [.long u5.1]) n_84 hm (fun l u hu => c_Mod_sumOf hu) rfl (Nat.le_of_ble_eq_true rfl) rfl (by omega) (by omega) (fun _ => rfl) dX12_positiveOf_58 (fun u5 hm => ?_)
    refine j_lstore C [(5, .long u5.1), (4, .int u4), (2, .long u3.1), (0, .ref (G.1 + 84)), (1, .int v1)] dX12_positiveOf_61 (by decide) rfl ?_
    refine j_iload_n C 4 dX12_positiveOf_63 rfl rfl ?_
    refine j_ifeq C 125 dX12_positiveOf_64 (by decide) hm (fun hm => ?_) (fun hm => ?_)
    · refine j_sub (L' := []) [] rfl ?_
      exact w_Mod_positiveOf_125 C IH0 IH1 IH2 IH3 O hm
    · refine j_aload_n C 3 dX12_positiveOf_67 rfl rfl ?_
      refine j_gZ C f_X12_228 n_84 dX12_positiveOf_68 ?_
      refine j_ifne C 125 dX12_positiveOf_71 (by decide) hm (fun hm => ?_) (fun hm => ?_)
      · refine j_iload C 1 dX12_positiveOf_74 rfl ?_
        refine j_bipush C 60 dX12_positiveOf_76 (by decide) ?_
        refine j_cS C l_X12_193 [.int ((60 : Int32))] [.int u4] (fun u6 => some (.int u6)) (fun _ => u5.2) (fun u6 => [.int u6, .int u4]) hm (fun l u hu => c_Mod_sign hu) rfl (Nat.le_of_ble_eq_true rfl) rfl (by omega) (by omega) (fun _ => rfl) dX12_positiveOf_78 (fun u6 hm => ?_)
        refine j_if_icmpne C 94 dX12_positiveOf_81 (by decide) hm (fun hm => ?_) (fun hm => ?_)
        · refine j_lload_n C 2 dX12_positiveOf_84 rfl rfl ?_
          refine j_lload C 0 dX12_positiveOf_85 rfl ?_
          refine j_lcmp C dX12_positiveOf_87 ?_
          refine j_ifge C 125 dX12_positiveOf_88 (by decide) hm (fun hm => ?_) (fun hm => ?_)
          · refine j_sub (L' := []) [] rfl ?_
            exact w_Mod_positiveOf_125 C IH0 IH1 IH2 IH3 O hm
          · refine j_goto C 121 dX12_positiveOf_91 (by decide) ?_
            refine j_sub (L' := []) [] rfl ?_
            exact w_Mod_positiveOf_121 C IH0 IH1 IH2 IH3 O hm
        · refine j_iload C 1 dX12_positiveOf_94 rfl ?_
          refine j_bipush C 62 dX12_positiveOf_96 (by decide) ?_
          refine j_cS C l_X12_193 [.int ((62 : Int32))] [.int u4] (fun u7 => some (.int u7)) (fun _ => u5.2) (fun u7 => [.int u7, .int u4]) hm (fun l u hu => c_Mod_sign hu) rfl (Nat.le_of_ble_eq_true rfl) rfl (by omega) (by omega) (fun _ => rfl) dX12_positiveOf_98 (fun u7 hm => ?_)
          refine j_if_icmpne C 114 dX12_positiveOf_101 (by decide) hm (fun hm => ?_) (fun hm => ?_)
          · refine j_lload_n C 2 dX12_positiveOf_104 rfl rfl ?_
            refine j_lload C 0 dX12_positiveOf_105 rfl ?_
            refine j_lcmp C dX12_positiveOf_107 ?_
            refine j_ifle C 125 dX12_positiveOf_108 (by decide) hm (fun hm => ?_) (fun hm => ?_)
            · refine j_sub (L' := []) [] rfl ?_
              exact w_Mod_positiveOf_125 C IH0 IH1 IH2 IH3 O hm
            · refine j_goto C 121 dX12_positiveOf_111 (by decide) ?_
              refine j_sub (L' := []) [] rfl ?_
              exact w_Mod_positiveOf_121 C IH0 IH1 IH2 IH3 O hm
          · refine j_lload_n C 2 dX12_positiveOf_114 rfl rfl ?_
            refine j_lload C 0 dX12_positiveOf_115 rfl ?_
            refine j_lcmp C dX12_positiveOf_117 ?_
            refine j_ifne C 125 dX12_positiveOf_118 (by decide) hm (fun hm => ?_) (fun hm => ?_)
            · refine j_sub (L' := []) [] rfl ?_
              exact w_Mod_positiveOf_121 C IH0 IH1 IH2 IH3 O hm
            · refine j_sub (L' := []) [] rfl ?_
              exact w_Mod_positiveOf_125 C IH0 IH1 IH2 IH3 O hm
      · refine j_sub (L' := []) [] rfl ?_
        exact w_Mod_positiveOf_125 C IH0 IH1 IH2 IH3 O hm
  · refine j_aload_n C 0 dX12_positiveOf_12 rfl rfl ?_
    refine j_iload_n C 1 dX12_positiveOf_13 rfl rfl ?_
    refine j_cV C l_X12_259 [.int v1] [] (fun u8 => some (.int u8.1)) (fun u8 => u8.2) (fun u8 => [.int u8.1]) n_84 hm (fun l u hu => IH3 _ _ _ _ hu) rfl (Nat.le_of_ble_eq_true rfl) rfl (by omega) (by omega) (fun _ => rfl) dX12_positiveOf_14 (fun u8 hm => ?_)
    refine j_istore_n C [(2, .int u8.1), (0, .ref (G.1 + 84)), (1, .int v1)] dX12_positiveOf_17 rfl (by decide) rfl ?_
    refine j_aload_n C 1 dX12_positiveOf_18 rfl rfl ?_
    refine j_dup C dX12_positiveOf_19 rfl ?_
    refine j_gI C f_X12_218 n_84 dX12_positiveOf_20 ?_
    refine j_iconst C 1 dX12_positiveOf_23 (by decide) ?_
    refine j_iadd C dX12_positiveOf_24 ?_
    refine j_pI C f_X12_218 n_84 dX12_positiveOf_25 ?_
    refine j_iload_n C 0 dX12_positiveOf_28 rfl rfl ?_
    obtain ⟨cz, hm⟩ := bz_inv hm
    obtain rfl := Option.some.inj hm
    exact j_zret C O cz dX12_positiveOf_29
theorem w_Mod_testOf_45 {G : jG} {X : jX} {d : Nat} {rc0 : Int32 → Hp → Option (Int32 × Hp)} {rc1 : Int32 → Hp → Option (Int32 × Hp)} {rc2 : Int32 → Hp → Option (Int32 × Hp)} {rc3 : Int32 → Hp → Option (Int32 × Hp)} (C : jC G X cX12_testOf 4 RX12 (104 + (d + 1)) (2739 + 26 * (d + 1))) (IH0 : ∀ (l : Launch) (v1 : Int32) (h : Hp) (out : (Int32 × Hp)), rc0 v1 h = some out → mt G l yX12_bothOf cX12_bothOf 4 (some .boolean) (104 + d) (2739 + 26 * d) [.ref (G.1 + 84), .int v1] h (some (.int out.1)) out.2) (IH1 : ∀ (l : Launch) (v1 : Int32) (h : Hp) (out : (Int32 × Hp)), rc1 v1 h = some out → mt G l yX12_plainOf cX12_plainOf 3 (some .boolean) (104 + d) (2739 + 26 * d) [.ref (G.1 + 84), .int v1] h (some (.int out.1)) out.2) (IH2 : ∀ (l : Launch) (v1 : Int32) (h : Hp) (out : (Int32 × Hp)), rc2 v1 h = some out → mt G l yX12_positiveOf cX12_positiveOf 7 (some .boolean) (104 + d) (2739 + 26 * d) [.ref (G.1 + 84), .int v1] h (some (.int out.1)) out.2) (IH3 : ∀ (l : Launch) (v1 : Int32) (h : Hp) (out : (Int32 × Hp)), rc3 v1 h = some out → mt G l yX12_testOf cX12_testOf 4 (some .boolean) (104 + d) (2739 + 26 * d) [.ref (G.1 + 84), .int v1] h (some (.int out.1)) out.2) {v1 : Int32} {s0 : Int32} {h : Hp} {out : ((Int32 × Int32 × Hp) ⊕ (Int32 × Hp))} (O : (O_Mod_testOf_6 G X) out) (hm : b_Mod_testOf_45 rc0 rc1 rc2 rc3 v1 s0 h = some out) : J G X 45 [(0, .ref (G.1 + 84)), (1, .int v1)] [.int s0] h := by
  unfold b_Mod_testOf_45 at hm
  refine j_istore_n C [(2, .int s0), (0, .ref (G.1 + 84)), (1, .int v1)] dX12_testOf_45 rfl (by decide) rfl ?_
  refine j_goto C 6 dX12_testOf_46 (by decide) ?_
  obtain rfl := Option.some.inj hm
  refine j_sub (L' := [(0, .ref (G.1 + 84)), (1, .int v1), (2, .int s0)]) [1, 2, 0] rfl ?_
  exact O
theorem w_Mod_testOf_40 {G : jG} {X : jX} {d : Nat} {rc0 : Int32 → Hp → Option (Int32 × Hp)} {rc1 : Int32 → Hp → Option (Int32 × Hp)} {rc2 : Int32 → Hp → Option (Int32 × Hp)} {rc3 : Int32 → Hp → Option (Int32 × Hp)} (C : jC G X cX12_testOf 4 RX12 (104 + (d + 1)) (2739 + 26 * (d + 1))) (IH0 : ∀ (l : Launch) (v1 : Int32) (h : Hp) (out : (Int32 × Hp)), rc0 v1 h = some out → mt G l yX12_bothOf cX12_bothOf 4 (some .boolean) (104 + d) (2739 + 26 * d) [.ref (G.1 + 84), .int v1] h (some (.int out.1)) out.2) (IH1 : ∀ (l : Launch) (v1 : Int32) (h : Hp) (out : (Int32 × Hp)), rc1 v1 h = some out → mt G l yX12_plainOf cX12_plainOf 3 (some .boolean) (104 + d) (2739 + 26 * d) [.ref (G.1 + 84), .int v1] h (some (.int out.1)) out.2) (IH2 : ∀ (l : Launch) (v1 : Int32) (h : Hp) (out : (Int32 × Hp)), rc2 v1 h = some out → mt G l yX12_positiveOf cX12_positiveOf 7 (some .boolean) (104 + d) (2739 + 26 * d) [.ref (G.1 + 84), .int v1] h (some (.int out.1)) out.2) (IH3 : ∀ (l : Launch) (v1 : Int32) (h : Hp) (out : (Int32 × Hp)), rc3 v1 h = some out → mt G l yX12_testOf cX12_testOf 4 (some .boolean) (104 + d) (2739 + 26 * d) [.ref (G.1 + 84), .int v1] h (some (.int out.1)) out.2) {v1 : Int32} {h : Hp} {out : ((Int32 × Int32 × Hp) ⊕ (Int32 × Hp))} (O : (O_Mod_testOf_6 G X) out) (hm : b_Mod_testOf_40 rc0 rc1 rc2 rc3 v1 h = some out) : J G X 40 [(0, .ref (G.1 + 84)), (1, .int v1)] [] h := by
  unfold b_Mod_testOf_40 at hm
  refine j_iconst C 1 dX12_testOf_40 (by decide) ?_
  refine j_goto C 45 dX12_testOf_41 (by decide) ?_
  refine j_sub (L' := [(0, .ref (G.1 + 84)), (1, .int v1)]) [0, 1] rfl ?_
  exact w_Mod_testOf_45 C IH0 IH1 IH2 IH3 O hm
theorem w_Mod_testOf_28 {G : jG} {X : jX} {d : Nat} {rc0 : Int32 → Hp → Option (Int32 × Hp)} {rc1 : Int32 → Hp → Option (Int32 × Hp)} {rc2 : Int32 → Hp → Option (Int32 × Hp)} {rc3 : Int32 → Hp → Option (Int32 × Hp)} (C : jC G X cX12_testOf 4 RX12 (104 + (d + 1)) (2739 + 26 * (d + 1))) (IH0 : ∀ (l : Launch) (v1 : Int32) (h : Hp) (out : (Int32 × Hp)), rc0 v1 h = some out → mt G l yX12_bothOf cX12_bothOf 4 (some .boolean) (104 + d) (2739 + 26 * d) [.ref (G.1 + 84), .int v1] h (some (.int out.1)) out.2) (IH1 : ∀ (l : Launch) (v1 : Int32) (h : Hp) (out : (Int32 × Hp)), rc1 v1 h = some out → mt G l yX12_plainOf cX12_plainOf 3 (some .boolean) (104 + d) (2739 + 26 * d) [.ref (G.1 + 84), .int v1] h (some (.int out.1)) out.2) (IH2 : ∀ (l : Launch) (v1 : Int32) (h : Hp) (out : (Int32 × Hp)), rc2 v1 h = some out → mt G l yX12_positiveOf cX12_positiveOf 7 (some .boolean) (104 + d) (2739 + 26 * d) [.ref (G.1 + 84), .int v1] h (some (.int out.1)) out.2) (IH3 : ∀ (l : Launch) (v1 : Int32) (h : Hp) (out : (Int32 × Hp)), rc3 v1 h = some out → mt G l yX12_testOf cX12_testOf 4 (some .boolean) (104 + d) (2739 + 26 * d) [.ref (G.1 + 84), .int v1] h (some (.int out.1)) out.2) {v1 : Int32} {v2 : Int32} {s0 : Int32} {h : Hp} {out : ((Int32 × Int32 × Hp) ⊕ (Int32 × Hp))} (O : (O_Mod_testOf_6 G X) out) (hm : b_Mod_testOf_28 rc0 rc1 rc2 rc3 v1 v2 s0 h = some out) : J G X 28 [(0, .ref (G.1 + 84)), (1, .int v1), (2, .int v2)] [.int s0, .ref (G.1 + 84)] h := by
  unfold b_Mod_testOf_28 at hm
  refine j_cV C l_X12_249 [.int s0] [] (fun u1 => some (.int u1.1)) (fun u1 => u1.2) (fun u1 => [.int u1.1]) n_84 hm (fun l u hu => IH0 _ _ _ _ hu) rfl (Nat.le_of_ble_eq_true rfl) rfl (by omega) (by omega) (fun _ => rfl) dX12_testOf_28 (fun u1 hm => ?_)
  refine j_istore_n C [(3, .int u1.1), (0, .ref (G.1 + 84)), (1, .int v1), (2, .int v2)] dX12_testOf_31 rfl (by decide) rfl ?_
  refine j_iload_n C 3 dX12_testOf_32 rfl rfl ?_
  refine j_ifne C 40 dX12_testOf_33 (by decide) hm (fun hm => ?_) (fun hm => ?_)
  · refine j_iload_n C 0 dX12_testOf_36 rfl rfl ?_
    refine j_ifeq C 44 dX12_testOf_37 (by decide) hm (fun hm => ?_) (fun hm => ?_)
    · refine j_iconst C 0 dX12_testOf_44 (by decide) ?_
      refine j_sub (L' := [(0, .ref (G.1 + 84)), (1, .int v1)]) [1, 2] rfl ?_
      exact w_Mod_testOf_45 C IH0 IH1 IH2 IH3 O hm
    · refine j_sub (L' := [(0, .ref (G.1 + 84)), (1, .int v1)]) [1, 2] rfl ?_
      exact w_Mod_testOf_40 C IH0 IH1 IH2 IH3 O hm
  · refine j_sub (L' := [(0, .ref (G.1 + 84)), (1, .int v1)]) [1, 2] rfl ?_
    exact w_Mod_testOf_40 C IH0 IH1 IH2 IH3 O hm
theorem w_Mod_testOf_27 {G : jG} {X : jX} {d : Nat} {rc0 : Int32 → Hp → Option (Int32 × Hp)} {rc1 : Int32 → Hp → Option (Int32 × Hp)} {rc2 : Int32 → Hp → Option (Int32 × Hp)} {rc3 : Int32 → Hp → Option (Int32 × Hp)} (C : jC G X cX12_testOf 4 RX12 (104 + (d + 1)) (2739 + 26 * (d + 1))) (IH0 : ∀ (l : Launch) (v1 : Int32) (h : Hp) (out : (Int32 × Hp)), rc0 v1 h = some out → mt G l yX12_bothOf cX12_bothOf 4 (some .boolean) (104 + d) (2739 + 26 * d) [.ref (G.1 + 84), .int v1] h (some (.int out.1)) out.2) (IH1 : ∀ (l : Launch) (v1 : Int32) (h : Hp) (out : (Int32 × Hp)), rc1 v1 h = some out → mt G l yX12_plainOf cX12_plainOf 3 (some .boolean) (104 + d) (2739 + 26 * d) [.ref (G.1 + 84), .int v1] h (some (.int out.1)) out.2) (IH2 : ∀ (l : Launch) (v1 : Int32) (h : Hp) (out : (Int32 × Hp)), rc2 v1 h = some out → mt G l yX12_positiveOf cX12_positiveOf 7 (some .boolean) (104 + d) (2739 + 26 * d) [.ref (G.1 + 84), .int v1] h (some (.int out.1)) out.2) (IH3 : ∀ (l : Launch) (v1 : Int32) (h : Hp) (out : (Int32 × Hp)), rc3 v1 h = some out → mt G l yX12_testOf cX12_testOf 4 (some .boolean) (104 + d) (2739 + 26 * d) [.ref (G.1 + 84), .int v1] h (some (.int out.1)) out.2) {v1 : Int32} {v2 : Int32} {h : Hp} {out : ((Int32 × Int32 × Hp) ⊕ (Int32 × Hp))} (O : (O_Mod_testOf_6 G X) out) (hm : b_Mod_testOf_27 rc0 rc1 rc2 rc3 v1 v2 h = some out) : J G X 27 [(0, .ref (G.1 + 84)), (1, .int v1), (2, .int v2)] [.ref (G.1 + 84)] h := by
  unfold b_Mod_testOf_27 at hm
  refine j_iconst C 0 dX12_testOf_27 (by decide) ?_
  refine j_sub (L' := [(0, .ref (G.1 + 84)), (1, .int v1), (2, .int v2)]) [0, 1, 2] rfl ?_
  exact w_Mod_testOf_28 C IH0 IH1 IH2 IH3 O hm
theorem w_Mod_testOf_6 {G : jG} {X : jX} {d : Nat} {rc0 : Int32 → Hp → Option (Int32 × Hp)} {rc1 : Int32 → Hp → Option (Int32 × Hp)} {rc2 : Int32 → Hp → Option (Int32 × Hp)} {rc3 : Int32 → Hp → Option (Int32 × Hp)} (C : jC G X cX12_testOf 4 RX12 (104 + (d + 1)) (2739 + 26 * (d + 1))) (IH0 : ∀ (l : Launch) (v1 : Int32) (h : Hp) (out : (Int32 × Hp)), rc0 v1 h = some out → mt G l yX12_bothOf cX12_bothOf 4 (some .boolean) (104 + d) (2739 + 26 * d) [.ref (G.1 + 84), .int v1] h (some (.int out.1)) out.2) (IH1 : ∀ (l : Launch) (v1 : Int32) (h : Hp) (out : (Int32 × Hp)), rc1 v1 h = some out → mt G l yX12_plainOf cX12_plainOf 3 (some .boolean) (104 + d) (2739 + 26 * d) [.ref (G.1 + 84), .int v1] h (some (.int out.1)) out.2) (IH2 : ∀ (l : Launch) (v1 : Int32) (h : Hp) (out : (Int32 × Hp)), rc2 v1 h = some out → mt G l yX12_positiveOf cX12_positiveOf 7 (some .boolean) (104 + d) (2739 + 26 * d) [.ref (G.1 + 84), .int v1] h (some (.int out.1)) out.2) (IH3 : ∀ (l : Launch) (v1 : Int32) (h : Hp) (out : (Int32 × Hp)), rc3 v1 h = some out → mt G l yX12_testOf cX12_testOf 4 (some .boolean) (104 + d) (2739 + 26 * d) [.ref (G.1 + 84), .int v1] h (some (.int out.1)) out.2) {v1 : Int32} {v2 : Int32} {h : Hp} {out : ((Int32 × Int32 × Hp) ⊕ (Int32 × Hp))} (O : (O_Mod_testOf_6 G X) out) (hm : b_Mod_testOf_6 rc0 rc1 rc2 rc3 v1 v2 h = some out) : J G X 6 [(0, .ref (G.1 + 84)), (1, .int v1), (2, .int v2)] [] h := by
  unfold b_Mod_testOf_6 at hm
  refine j_aload_n C 0 dX12_testOf_6 rfl rfl ?_
  refine j_iconst C 4 dX12_testOf_7 (by decide) ?_
  refine j_cV C l_X12_243 [.int ((4 : Int32))] [] (fun u1 => some (.int u1.1)) (fun u1 => u1.2) (fun u1 => [.int u1.1]) n_84 hm (fun l u hu => c_Mod_passes0 hu) rfl (Nat.le_of_ble_eq_true rfl) rfl (by omega) (by omega) (fun _ => rfl) dX12_testOf_8 (fun u1 hm => ?_)
  refine j_ifeq C 49 dX12_testOf_11 (by decide) hm (fun hm => ?_) (fun hm => ?_)
  · refine j_iload_n C 2 dX12_testOf_49 rfl rfl ?_
    obtain ⟨cz, hm⟩ := bz_inv hm
    obtain rfl := Option.some.inj hm
    exact j_zret C O cz dX12_testOf_50
  · refine j_aload_n C 0 dX12_testOf_14 rfl rfl ?_
    refine j_iload_n C 1 dX12_testOf_15 rfl rfl ?_
    refine j_ifeq C 27 dX12_testOf_16 (by decide) hm (fun hm => ?_) (fun hm => ?_)
    · refine j_sub (L' := [(0, .ref (G.1 + 84)), (1, .int v1), (2, .int v2)]) [0, 1, 2] rfl ?_
      exact w_Mod_testOf_27 C IH0 IH1 IH2 IH3 O hm
    · refine j_iload_n C 2 dX12_testOf_19 rfl rfl ?_
      refine j_ifne C 27 dX12_testOf_20 (by decide) hm (fun hm => ?_) (fun hm => ?_)
      · refine j_iconst C 1 dX12_testOf_23 (by decide) ?_
        refine j_goto C 28 dX12_testOf_24 (by decide) ?_
        refine j_sub (L' := [(0, .ref (G.1 + 84)), (1, .int v1), (2, .int v2)]) [0, 1, 2] rfl ?_
        exact w_Mod_testOf_28 C IH0 IH1 IH2 IH3 O hm
      · refine j_sub (L' := [(0, .ref (G.1 + 84)), (1, .int v1), (2, .int v2)]) [0, 1, 2] rfl ?_
        exact w_Mod_testOf_27 C IH0 IH1 IH2 IH3 O hm
theorem k_Mod_testOf_6 {G : jG} {X : jX} {d : Nat} {rc0 : Int32 → Hp → Option (Int32 × Hp)} {rc1 : Int32 → Hp → Option (Int32 × Hp)} {rc2 : Int32 → Hp → Option (Int32 × Hp)} {rc3 : Int32 → Hp → Option (Int32 × Hp)} (C : jC G X cX12_testOf 4 RX12 (104 + (d + 1)) (2739 + 26 * (d + 1))) (IH0 : ∀ (l : Launch) (v1 : Int32) (h : Hp) (out : (Int32 × Hp)), rc0 v1 h = some out → mt G l yX12_bothOf cX12_bothOf 4 (some .boolean) (104 + d) (2739 + 26 * d) [.ref (G.1 + 84), .int v1] h (some (.int out.1)) out.2) (IH1 : ∀ (l : Launch) (v1 : Int32) (h : Hp) (out : (Int32 × Hp)), rc1 v1 h = some out → mt G l yX12_plainOf cX12_plainOf 3 (some .boolean) (104 + d) (2739 + 26 * d) [.ref (G.1 + 84), .int v1] h (some (.int out.1)) out.2) (IH2 : ∀ (l : Launch) (v1 : Int32) (h : Hp) (out : (Int32 × Hp)), rc2 v1 h = some out → mt G l yX12_positiveOf cX12_positiveOf 7 (some .boolean) (104 + d) (2739 + 26 * d) [.ref (G.1 + 84), .int v1] h (some (.int out.1)) out.2) (IH3 : ∀ (l : Launch) (v1 : Int32) (h : Hp) (out : (Int32 × Hp)), rc3 v1 h = some out → mt G l yX12_testOf cX12_testOf 4 (some .boolean) (104 + d) (2739 + 26 * d) [.ref (G.1 + 84), .int v1] h (some (.int out.1)) out.2) {v1 : Int32} {v2 : Int32} {h : Hp} {out : (Int32 × Hp)} (O : (O_Mod_testOf G X) out) (hm : lp (fun q => b_Mod_testOf_6 rc0 rc1 rc2 rc3 q.1 q.2.1 q.2.2) (v1, v2, h) = some out) : J G X 6 [(0, .ref (G.1 + 84)), (1, .int v1), (2, .int v2)] [] h :=
  lp_ok (P := P_Mod_testOf_6 G X) (O := (O_Mod_testOf G X)) (fun q r hm O => w_Mod_testOf_6 C IH0 IH1 IH2 IH3 O hm) hm O
theorem w_Mod_testOf {G : jG} {X : jX} {d : Nat} {rc0 : Int32 → Hp → Option (Int32 × Hp)} {rc1 : Int32 → Hp → Option (Int32 × Hp)} {rc2 : Int32 → Hp → Option (Int32 × Hp)} {rc3 : Int32 → Hp → Option (Int32 × Hp)} (C : jC G X cX12_testOf 4 RX12 (104 + (d + 1)) (2739 + 26 * (d + 1))) (IH0 : ∀ (l : Launch) (v1 : Int32) (h : Hp) (out : (Int32 × Hp)), rc0 v1 h = some out → mt G l yX12_bothOf cX12_bothOf 4 (some .boolean) (104 + d) (2739 + 26 * d) [.ref (G.1 + 84), .int v1] h (some (.int out.1)) out.2) (IH1 : ∀ (l : Launch) (v1 : Int32) (h : Hp) (out : (Int32 × Hp)), rc1 v1 h = some out → mt G l yX12_plainOf cX12_plainOf 3 (some .boolean) (104 + d) (2739 + 26 * d) [.ref (G.1 + 84), .int v1] h (some (.int out.1)) out.2) (IH2 : ∀ (l : Launch) (v1 : Int32) (h : Hp) (out : (Int32 × Hp)), rc2 v1 h = some out → mt G l yX12_positiveOf cX12_positiveOf 7 (some .boolean) (104 + d) (2739 + 26 * d) [.ref (G.1 + 84), .int v1] h (some (.int out.1)) out.2) (IH3 : ∀ (l : Launch) (v1 : Int32) (h : Hp) (out : (Int32 × Hp)), rc3 v1 h = some out → mt G l yX12_testOf cX12_testOf 4 (some .boolean) (104 + d) (2739 + 26 * d) [.ref (G.1 + 84), .int v1] h (some (.int out.1)) out.2) {v1 : Int32} {h : Hp} {out : (Int32 × Hp)} (O : (O_Mod_testOf G X) out) (hm : b_Mod_testOf rc0 rc1 rc2 rc3 v1 h = some out) : J G X 0 [(0, .ref (G.1 + 84)), (1, .int v1)] [] h := by
  unfold b_Mod_testOf at hm
  refine j_aload_n C 0 dX12_testOf_0 rfl rfl ?_
  refine j_iload_n C 1 dX12_testOf_1 rfl rfl ?_
  refine j_cV C l_X12_249 [.int v1] [] (fun u1 => some (.int u1.1)) (fun u1 => u1.2) (fun u1 => [.int u1.1]) n_84 hm (fun l u hu => IH0 _ _ _ _ hu) rfl (Nat.le_of_ble_eq_true rfl) rfl (by omega) (by omega) (fun _ => rfl) dX12_testOf_2 (fun u1 hm => ?_)
  refine j_istore_n C [(2, .int u1.1), (0, .ref (G.1 + 84)), (1, .int v1)] dX12_testOf_5 rfl (by decide) rfl ?_
  refine j_sub (L' := [(0, .ref (G.1 + 84)), (1, .int v1), (2, .int u1.1)]) [1, 2, 0] rfl ?_
  exact k_Mod_testOf_6 C IH0 IH1 IH2 IH3 O hm
theorem c_r_Mod_bothOf {G : jG} : ∀ d : Nat, (∀ (l : Launch) (v1 : Int32) (h : Hp) (out : (Int32 × Hp)), (r_Mod_bothOf d).1 v1 h = some out → mt G l yX12_bothOf cX12_bothOf 4 (some .boolean) (104 + d) (2739 + 26 * d) [.ref (G.1 + 84), .int v1] h (some (.int out.1)) out.2) ∧ (∀ (l : Launch) (v1 : Int32) (h : Hp) (out : (Int32 × Hp)), (r_Mod_bothOf d).2.1 v1 h = some out → mt G l yX12_plainOf cX12_plainOf 3 (some .boolean) (104 + d) (2739 + 26 * d) [.ref (G.1 + 84), .int v1] h (some (.int out.1)) out.2) ∧ (∀ (l : Launch) (v1 : Int32) (h : Hp) (out : (Int32 × Hp)), (r_Mod_bothOf d).2.2.1 v1 h = some out → mt G l yX12_positiveOf cX12_positiveOf 7 (some .boolean) (104 + d) (2739 + 26 * d) [.ref (G.1 + 84), .int v1] h (some (.int out.1)) out.2) ∧ (∀ (l : Launch) (v1 : Int32) (h : Hp) (out : (Int32 × Hp)), (r_Mod_bothOf d).2.2.2 v1 h = some out → mt G l yX12_testOf cX12_testOf 4 (some .boolean) (104 + d) (2739 + 26 * d) [.ref (G.1 + 84), .int v1] h (some (.int out.1)) out.2)
  | 0 => ⟨fun _ _ _ _ e => (by cases e), fun _ _ _ _ e => (by cases e), fun _ _ _ _ e => (by cases e), fun _ _ _ _ e => (by cases e)⟩
  | d + 1 => by
    obtain ⟨g0, g1, g2, g3⟩ := c_r_Mod_bothOf (G := G) d
    exact ⟨fun l v1 h out hm => mt_of (by decide) (Nat.le_of_ble_eq_true rfl) _ rfl (fun X _ C O => w_Mod_bothOf C g0 g1 g2 g3 O hm), fun l v1 h out hm => mt_of (by decide) (Nat.le_of_ble_eq_true rfl) _ rfl (fun X _ C O => w_Mod_plainOf C g0 g1 g2 g3 O hm), fun l v1 h out hm => mt_of (by decide) (Nat.le_of_ble_eq_true rfl) _ rfl (fun X _ C O => w_Mod_positiveOf C g0 g1 g2 g3 O hm), fun l v1 h out hm => mt_of (by decide) (Nat.le_of_ble_eq_true rfl) _ rfl (fun X _ C O => w_Mod_testOf C g0 g1 g2 g3 O hm)⟩
theorem c_Mod_bothOf {G : jG} {l : Launch} {v1 : Int32} {h : Hp} {out : (Int32 × Hp)} (hm : s_Mod_bothOf v1 h = some out) : mt G l yX12_bothOf cX12_bothOf 4 (some .boolean) 174 4559 [.ref (G.1 + 84), .int v1] h (some (.int out.1)) out.2 := (c_r_Mod_bothOf 70).1 l v1 h out hm
theorem c_Mod_plainOf {G : jG} {l : Launch} {v1 : Int32} {h : Hp} {out : (Int32 × Hp)} (hm : s_Mod_plainOf v1 h = some out) : mt G l yX12_plainOf cX12_plainOf 3 (some .boolean) 174 4559 [.ref (G.1 + 84), .int v1] h (some (.int out.1)) out.2 := (c_r_Mod_bothOf 70).2.1 l v1 h out hm
theorem c_Mod_positiveOf {G : jG} {l : Launch} {v1 : Int32} {h : Hp} {out : (Int32 × Hp)} (hm : s_Mod_positiveOf v1 h = some out) : mt G l yX12_positiveOf cX12_positiveOf 7 (some .boolean) 174 4559 [.ref (G.1 + 84), .int v1] h (some (.int out.1)) out.2 := (c_r_Mod_bothOf 70).2.2.1 l v1 h out hm
theorem c_Mod_testOf {G : jG} {l : Launch} {v1 : Int32} {h : Hp} {out : (Int32 × Hp)} (hm : s_Mod_testOf v1 h = some out) : mt G l yX12_testOf cX12_testOf 4 (some .boolean) 174 4559 [.ref (G.1 + 84), .int v1] h (some (.int out.1)) out.2 := (c_r_Mod_bothOf 70).2.2.2 l v1 h out hm
