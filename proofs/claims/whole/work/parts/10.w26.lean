noncomputable def b_Reader_readBoth_67 (rc0 : Int32 → Hp → Option (Int32 × Hp)) (rc1 : Int32 → Hp → Option (Int32 × Hp)) (rc2 : Int32 → Hp → Option (Int32 × Hp)) (rc3 : Int32 → Hp → Option (Int32 × Hp)) (h : Hp) : Option (Int32 × Hp) :=
  some ((1 : Int32), h)
noncomputable def b_Reader_readBoth_12 (rc0 : Int32 → Hp → Option (Int32 × Hp)) (rc1 : Int32 → Hp → Option (Int32 × Hp)) (rc2 : Int32 → Hp → Option (Int32 × Hp)) (rc3 : Int32 → Hp → Option (Int32 × Hp)) (v1 : Int32) (v2 : Int32) (h : Hp) : Option ((Int32 × Int32 × Hp) ⊕ (Int32 × Hp)) :=
  if ((400 : Int32)) ≤ v2 then
    inr (b_Reader_readBoth_67 rc0 rc1 rc2 rc3 h)
  else
    (s_Reader_isWord 11 h).bind fun u1 => if u1 = 0 then
      inr (b_Reader_readBoth_67 rc0 rc1 rc2 rc3 h)
    else
      (s_Reader_put ((11 : Int32)) ((0 : Int32)) h).bind fun u2 => (s_Reader_advance u2).bind fun u3 => (rc2 v1 u3).bind fun u4 => if u4.1 = 0 then
        some (.inr ((0 : Int32), u4.2))
      else
        (s_Reader_aimHere (hI h 47 3) ((11 : Int32)) u4.2).bind fun u5 => some (.inl (v1, (v2 + (1 : Int32)), u5))
noncomputable def b_Reader_readBoth (rc0 : Int32 → Hp → Option (Int32 × Hp)) (rc1 : Int32 → Hp → Option (Int32 × Hp)) (rc2 : Int32 → Hp → Option (Int32 × Hp)) (rc3 : Int32 → Hp → Option (Int32 × Hp)) (v1 : Int32) (h : Hp) : Option (Int32 × Hp) :=
  (rc2 v1 h).bind fun u1 => if u1.1 = 0 then
    some ((0 : Int32), u1.2)
  else
    lp (fun q => b_Reader_readBoth_12 rc0 rc1 rc2 rc3 q.1 q.2.1 q.2.2) (v1, ((0 : Int32)), u1.2)
noncomputable def b_Reader_readBracketed_39 (rc0 : Int32 → Hp → Option (Int32 × Hp)) (rc1 : Int32 → Hp → Option (Int32 × Hp)) (rc2 : Int32 → Hp → Option (Int32 × Hp)) (rc3 : Int32 → Hp → Option (Int32 × Hp)) (s0 : Int32) (h : Hp) : Option (Int32 × Hp) :=
  bz s0 <| some (s0, h)
noncomputable def b_Reader_readBracketed_38 (rc0 : Int32 → Hp → Option (Int32 × Hp)) (rc1 : Int32 → Hp → Option (Int32 × Hp)) (rc2 : Int32 → Hp → Option (Int32 × Hp)) (rc3 : Int32 → Hp → Option (Int32 × Hp)) (h : Hp) : Option (Int32 × Hp) :=
  b_Reader_readBracketed_39 rc0 rc1 rc2 rc3 ((0 : Int32)) h
noncomputable def b_Reader_readBracketed (rc0 : Int32 → Hp → Option (Int32 × Hp)) (rc1 : Int32 → Hp → Option (Int32 × Hp)) (rc2 : Int32 → Hp → Option (Int32 × Hp)) (rc3 : Int32 → Hp → Option (Int32 × Hp)) (v1 : Int32) (h : Hp) : Option (Int32 × Hp) :=
  if v1 < ((8 : Int32)) then
    (s_Reader_advance h).bind fun u1 => (rc3 (v1 + ((1 : Int32))) u1).bind fun u2 => if u2.1 = 0 then
      b_Reader_readBracketed_38 rc0 rc1 rc2 rc3 u2.2
    else
      (s_Reader_takes ((41 : Int32)) u2.2).bind fun u3 => if u3.1 = 0 then
        b_Reader_readBracketed_38 rc0 rc1 rc2 rc3 u3.2
      else
        b_Reader_readBracketed_39 rc0 rc1 rc2 rc3 ((1 : Int32)) u3.2
  else
    (s_Reader_fail h).bind fun u4 => bz u4.1 <| some (u4.1, u4.2)
noncomputable def b_Reader_readPlain_29 (rc0 : Int32 → Hp → Option (Int32 × Hp)) (rc1 : Int32 → Hp → Option (Int32 × Hp)) (rc2 : Int32 → Hp → Option (Int32 × Hp)) (rc3 : Int32 → Hp → Option (Int32 × Hp)) (v1 : Int32) (v3 : Int32) (s0 : Int32) (h : Hp) : Option ((Int32 × Int32 × Int32 × Hp) ⊕ (Int32 × Hp)) :=
  (s_Reader_advance h).bind fun u1 => some (.inl (v1, s0, (v3 + (1 : Int32)), u1))
noncomputable def b_Reader_readPlain_115 (rc0 : Int32 → Hp → Option (Int32 × Hp)) (rc1 : Int32 → Hp → Option (Int32 × Hp)) (rc2 : Int32 → Hp → Option (Int32 × Hp)) (rc3 : Int32 → Hp → Option (Int32 × Hp)) (h : Hp) : Option (Int32 × Hp) :=
  some ((1 : Int32), h)
noncomputable def b_Reader_readPlain_104 (rc0 : Int32 → Hp → Option (Int32 × Hp)) (rc1 : Int32 → Hp → Option (Int32 × Hp)) (rc2 : Int32 → Hp → Option (Int32 × Hp)) (rc3 : Int32 → Hp → Option (Int32 × Hp)) (v2 : Int32) (h : Hp) : Option (Int32 × Hp) :=
  if v2 = 0 then
    b_Reader_readPlain_115 rc0 rc1 rc2 rc3 h
  else
    (s_Reader_put ((9 : Int32)) ((0 : Int32)) h).bind fun u1 => b_Reader_readPlain_115 rc0 rc1 rc2 rc3 u1
noncomputable def b_Reader_readPlain_40 (rc0 : Int32 → Hp → Option (Int32 × Hp)) (rc1 : Int32 → Hp → Option (Int32 × Hp)) (rc2 : Int32 → Hp → Option (Int32 × Hp)) (rc3 : Int32 → Hp → Option (Int32 × Hp)) (v1 : Int32) (v2 : Int32) (h : Hp) : Option (Int32 × Hp) :=
  (s_Reader_isOther ((40 : Int32)) h).bind fun u1 => if u1 = 0 then
    (s_Reader_readSum v1 h).bind fun u2 => if u2.1 = 0 then
      some ((0 : Int32), u2.2)
    else
      (s_Reader_comparisonHere u2.2).bind fun u3 => if u3 = ((-1 : Int32)) then
        (s_Reader_fail u2.2).bind fun u7 => bz u7.1 <| some (u7.1, u7.2)
      else
        (s_Reader_advance u2.2).bind fun u4 => (s_Reader_readSum v1 u4).bind fun u5 => if u5.1 = 0 then
          some ((0 : Int32), u5.2)
        else
          (s_Reader_put u3 ((0 : Int32)) u5.2).bind fun u6 => b_Reader_readPlain_104 rc0 rc1 rc2 rc3 v2 u6
  else
    (rc1 v1 h).bind fun u8 => if u8.1 = 0 then
      some ((0 : Int32), u8.2)
    else
      b_Reader_readPlain_104 rc0 rc1 rc2 rc3 v2 u8.2
noncomputable def b_Reader_readPlain_4 (rc0 : Int32 → Hp → Option (Int32 × Hp)) (rc1 : Int32 → Hp → Option (Int32 × Hp)) (rc2 : Int32 → Hp → Option (Int32 × Hp)) (rc3 : Int32 → Hp → Option (Int32 × Hp)) (v1 : Int32) (v2 : Int32) (v3 : Int32) (h : Hp) : Option ((Int32 × Int32 × Int32 × Hp) ⊕ (Int32 × Hp)) :=
  if ((400 : Int32)) ≤ v3 then
    inr (b_Reader_readPlain_40 rc0 rc1 rc2 rc3 v1 v2 h)
  else
    (s_Reader_isWord 10 h).bind fun u1 => if u1 = 0 then
      inr (b_Reader_readPlain_40 rc0 rc1 rc2 rc3 v1 v2 h)
    else
      if v2 = 0 then
        b_Reader_readPlain_29 rc0 rc1 rc2 rc3 v1 v3 ((1 : Int32)) h
      else
        b_Reader_readPlain_29 rc0 rc1 rc2 rc3 v1 v3 ((0 : Int32)) h
noncomputable def b_Reader_readPlain (rc0 : Int32 → Hp → Option (Int32 × Hp)) (rc1 : Int32 → Hp → Option (Int32 × Hp)) (rc2 : Int32 → Hp → Option (Int32 × Hp)) (rc3 : Int32 → Hp → Option (Int32 × Hp)) (v1 : Int32) (h : Hp) : Option (Int32 × Hp) :=
  lp (fun q => b_Reader_readPlain_4 rc0 rc1 rc2 rc3 q.1 q.2.1 q.2.2.1 q.2.2.2) (v1, ((0 : Int32)), ((0 : Int32)), h)
noncomputable def b_Reader_readTest_67 (rc0 : Int32 → Hp → Option (Int32 × Hp)) (rc1 : Int32 → Hp → Option (Int32 × Hp)) (rc2 : Int32 → Hp → Option (Int32 × Hp)) (rc3 : Int32 → Hp → Option (Int32 × Hp)) (h : Hp) : Option (Int32 × Hp) :=
  some ((1 : Int32), h)
noncomputable def b_Reader_readTest_12 (rc0 : Int32 → Hp → Option (Int32 × Hp)) (rc1 : Int32 → Hp → Option (Int32 × Hp)) (rc2 : Int32 → Hp → Option (Int32 × Hp)) (rc3 : Int32 → Hp → Option (Int32 × Hp)) (v1 : Int32) (v2 : Int32) (h : Hp) : Option ((Int32 × Int32 × Hp) ⊕ (Int32 × Hp)) :=
  if ((400 : Int32)) ≤ v2 then
    inr (b_Reader_readTest_67 rc0 rc1 rc2 rc3 h)
  else
    (s_Reader_isWord 12 h).bind fun u1 => if u1 = 0 then
      inr (b_Reader_readTest_67 rc0 rc1 rc2 rc3 h)
    else
      (s_Reader_put ((10 : Int32)) ((0 : Int32)) h).bind fun u2 => (s_Reader_advance u2).bind fun u3 => (rc0 v1 u3).bind fun u4 => if u4.1 = 0 then
        some (.inr ((0 : Int32), u4.2))
      else
        (s_Reader_aimHere (hI h 47 3) ((10 : Int32)) u4.2).bind fun u5 => some (.inl (v1, (v2 + (1 : Int32)), u5))
noncomputable def b_Reader_readTest (rc0 : Int32 → Hp → Option (Int32 × Hp)) (rc1 : Int32 → Hp → Option (Int32 × Hp)) (rc2 : Int32 → Hp → Option (Int32 × Hp)) (rc3 : Int32 → Hp → Option (Int32 × Hp)) (v1 : Int32) (h : Hp) : Option (Int32 × Hp) :=
  (rc0 v1 h).bind fun u1 => if u1.1 = 0 then
    some ((0 : Int32), u1.2)
  else
    lp (fun q => b_Reader_readTest_12 rc0 rc1 rc2 rc3 q.1 q.2.1 q.2.2) (v1, ((0 : Int32)), u1.2)
noncomputable def r_Reader_readBoth : Nat → (Int32 → Hp → Option (Int32 × Hp)) × (Int32 → Hp → Option (Int32 × Hp)) × (Int32 → Hp → Option (Int32 × Hp)) × (Int32 → Hp → Option (Int32 × Hp))
  | 0 => (fun _ _ => none, fun _ _ => none, fun _ _ => none, fun _ _ => none)
  | d + 1 => (b_Reader_readBoth ((r_Reader_readBoth d).1) ((r_Reader_readBoth d).2.1) ((r_Reader_readBoth d).2.2.1) ((r_Reader_readBoth d).2.2.2), b_Reader_readBracketed ((r_Reader_readBoth d).1) ((r_Reader_readBoth d).2.1) ((r_Reader_readBoth d).2.2.1) ((r_Reader_readBoth d).2.2.2), b_Reader_readPlain ((r_Reader_readBoth d).1) ((r_Reader_readBoth d).2.1) ((r_Reader_readBoth d).2.2.1) ((r_Reader_readBoth d).2.2.2), b_Reader_readTest ((r_Reader_readBoth d).1) ((r_Reader_readBoth d).2.1) ((r_Reader_readBoth d).2.2.1) ((r_Reader_readBoth d).2.2.2))
noncomputable def s_Reader_readBoth (v1 : Int32) (h : Hp) : Option (Int32 × Hp) := (r_Reader_readBoth 80).1 v1 h
noncomputable def s_Reader_readBracketed (v1 : Int32) (h : Hp) : Option (Int32 × Hp) := (r_Reader_readBoth 80).2.1 v1 h
noncomputable def s_Reader_readPlain (v1 : Int32) (h : Hp) : Option (Int32 × Hp) := (r_Reader_readBoth 80).2.2.1 v1 h
noncomputable def s_Reader_readTest (v1 : Int32) (h : Hp) : Option (Int32 × Hp) := (r_Reader_readBoth 80).2.2.2 v1 h
def O_Reader_readBoth (G : jG) (X : jX) (out : (Int32 × Hp)) : Prop := jO G X (some .boolean) (some (.int out.1)) out.2
def P_Reader_readBoth_12 (G : jG) (X : jX) (q : Int32 × Int32 × Hp) : Prop := J G X 12 [(0, .ref (G.1 + 47)), (1, .int q.1), (2, .int q.2.1)] [] q.2.2
def O_Reader_readBoth_12 (G : jG) (X : jX) (t : ((Int32 × Int32 × Hp) ⊕ (Int32 × Hp))) : Prop := Sum.elim (P_Reader_readBoth_12 G X) (O_Reader_readBoth G X) t
def O_Reader_readBracketed (G : jG) (X : jX) (out : (Int32 × Hp)) : Prop := jO G X (some .boolean) (some (.int out.1)) out.2
def O_Reader_readPlain (G : jG) (X : jX) (out : (Int32 × Hp)) : Prop := jO G X (some .boolean) (some (.int out.1)) out.2
def P_Reader_readPlain_4 (G : jG) (X : jX) (q : Int32 × Int32 × Int32 × Hp) : Prop := J G X 4 [(0, .ref (G.1 + 47)), (1, .int q.1), (2, .int q.2.1), (3, .int q.2.2.1)] [] q.2.2.2
def O_Reader_readPlain_4 (G : jG) (X : jX) (t : ((Int32 × Int32 × Int32 × Hp) ⊕ (Int32 × Hp))) : Prop := Sum.elim (P_Reader_readPlain_4 G X) (O_Reader_readPlain G X) t
def O_Reader_readTest (G : jG) (X : jX) (out : (Int32 × Hp)) : Prop := jO G X (some .boolean) (some (.int out.1)) out.2
def P_Reader_readTest_12 (G : jG) (X : jX) (q : Int32 × Int32 × Hp) : Prop := J G X 12 [(0, .ref (G.1 + 47)), (1, .int q.1), (2, .int q.2.1)] [] q.2.2
def O_Reader_readTest_12 (G : jG) (X : jX) (t : ((Int32 × Int32 × Hp) ⊕ (Int32 × Hp))) : Prop := Sum.elim (P_Reader_readTest_12 G X) (O_Reader_readTest G X) t
theorem w_Reader_readBoth_67 {G : jG} {X : jX} {d : Nat} {rc0 : Int32 → Hp → Option (Int32 × Hp)} {rc1 : Int32 → Hp → Option (Int32 × Hp)} {rc2 : Int32 → Hp → Option (Int32 × Hp)} {rc3 : Int32 → Hp → Option (Int32 × Hp)} (C : jC G X cX3_readBoth 4 RX3 (89 + (d + 1)) (2145 + 23 * (d + 1))) (IH0 : ∀ (l : Launch) (v1 : Int32) (h : Hp) (out : (Int32 × Hp)), rc0 v1 h = some out → mt G l yX3_readBoth cX3_readBoth 4 (some .boolean) (89 + d) (2145 + 23 * d) [.ref (G.1 + 47), .int v1] h (some (.int out.1)) out.2) (IH1 : ∀ (l : Launch) (v1 : Int32) (h : Hp) (out : (Int32 × Hp)), rc1 v1 h = some out → mt G l yX3_readBracketed cX3_readBracketed 2 (some .boolean) (89 + d) (2145 + 23 * d) [.ref (G.1 + 47), .int v1] h (some (.int out.1)) out.2) (IH2 : ∀ (l : Launch) (v1 : Int32) (h : Hp) (out : (Int32 × Hp)), rc2 v1 h = some out → mt G l yX3_readPlain cX3_readPlain 4 (some .boolean) (89 + d) (2145 + 23 * d) [.ref (G.1 + 47), .int v1] h (some (.int out.1)) out.2) (IH3 : ∀ (l : Launch) (v1 : Int32) (h : Hp) (out : (Int32 × Hp)), rc3 v1 h = some out → mt G l yX3_readTest cX3_readTest 4 (some .boolean) (89 + d) (2145 + 23 * d) [.ref (G.1 + 47), .int v1] h (some (.int out.1)) out.2) {h : Hp} {out : (Int32 × Hp)} (O : (O_Reader_readBoth G X) out) (hm : b_Reader_readBoth_67 rc0 rc1 rc2 rc3 h = some out) : J G X 67 [] [] h := by
  unfold b_Reader_readBoth_67 at hm
  refine j_iconst C 1 dX3_readBoth_67 (by decide) ?_
  obtain rfl := Option.some.inj hm
  exact j_zret C O (by decide) dX3_readBoth_68
theorem w_Reader_readBoth_12 {G : jG} {X : jX} {d : Nat} {rc0 : Int32 → Hp → Option (Int32 × Hp)} {rc1 : Int32 → Hp → Option (Int32 × Hp)} {rc2 : Int32 → Hp → Option (Int32 × Hp)} {rc3 : Int32 → Hp → Option (Int32 × Hp)} (C : jC G X cX3_readBoth 4 RX3 (89 + (d + 1)) (2145 + 23 * (d + 1))) (IH0 : ∀ (l : Launch) (v1 : Int32) (h : Hp) (out : (Int32 × Hp)), rc0 v1 h = some out → mt G l yX3_readBoth cX3_readBoth 4 (some .boolean) (89 + d) (2145 + 23 * d) [.ref (G.1 + 47), .int v1] h (some (.int out.1)) out.2) (IH1 : ∀ (l : Launch) (v1 : Int32) (h : Hp) (out : (Int32 × Hp)), rc1 v1 h = some out → mt G l yX3_readBracketed cX3_readBracketed 2 (some .boolean) (89 + d) (2145 + 23 * d) [.ref (G.1 + 47), .int v1] h (some (.int out.1)) out.2) (IH2 : ∀ (l : Launch) (v1 : Int32) (h : Hp) (out : (Int32 × Hp)), rc2 v1 h = some out → mt G l yX3_readPlain cX3_readPlain 4 (some .boolean) (89 + d) (2145 + 23 * d) [.ref (G.1 + 47), .int v1] h (some (.int out.1)) out.2) (IH3 : ∀ (l : Launch) (v1 : Int32) (h : Hp) (out : (Int32 × Hp)), rc3 v1 h = some out → mt G l yX3_readTest cX3_readTest 4 (some .boolean) (89 + d) (2145 + 23 * d) [.ref (G.1 + 47), .int v1] h (some (.int out.1)) out.2) {v1 : Int32} {v2 : Int32} {h : Hp} {out : ((Int32 × Int32 × Hp) ⊕ (Int32 × Hp))} (O : (O_Reader_readBoth_12 G X) out) (hm : b_Reader_readBoth_12 rc0 rc1 rc2 rc3 v1 v2 h = some out) : J G X 12 [(0, .ref (G.1 + 47)), (1, .int v1), (2, .int v2)] [] h := by
  unfold b_Reader_readBoth_12 at hm
  refine j_iload_n C 2 dX3_readBoth_12 rfl rfl ?_
  refine j_sipush C 400 dX3_readBoth_13 (by decide) ?_
  refine j_if_icmpge C 67 dX3_readBoth_16 (by decide) hm (fun hm => ?_) (fun hm => ?_)
  · obtain ⟨o_0, hm_0, rfl⟩ := inr_inv hm
    refine j_sub (L' := []) [] rfl ?_
    exact w_Reader_readBoth_67 C IH0 IH1 IH2 IH3 O hm_0
  · refine j_aload_n C 0 dX3_readBoth_19 rfl rfl ?_
    refine j_ldcS C (i := 11) rfl dX3_readBoth_20 ?_
    refine j_cV C l_X3_71 [.ref (skg G 11)] [] (fun u1 => some (.int u1)) (fun _ => h) (fun u1 => [.int u1]) n_47 hm (fun l u hu => c_Reader_isWord hu) rfl (Nat.le_of_ble_eq_true rfl) rfl (by omega) (by omega) (fun _ => rfl) dX3_readBoth_22 (fun u1 hm => ?_)
    refine j_ifeq C 67 dX3_readBoth_25 (by decide) hm (fun hm => ?_) (fun hm => ?_)
    · obtain ⟨o_0, hm_0, rfl⟩ := inr_inv hm
      refine j_sub (L' := []) [] rfl ?_
      exact w_Reader_readBoth_67 C IH0 IH1 IH2 IH3 O hm_0
    · refine j_aload_n C 0 dX3_readBoth_28 rfl rfl ?_
      refine j_gI C f_X3_20 n_47 dX3_readBoth_29 ?_
      refine j_istore_n C [(3, .int (hI h 47 3)), (0, .ref (G.1 + 47)), (1, .int v1), (2, .int v2)] dX3_readBoth_32 rfl (by decide) rfl ?_
      refine j_aload_n C 1 dX3_readBoth_33 rfl rfl ?_
      refine j_bipush C 11 dX3_readBoth_34 (by decide) ?_
      refine j_iconst C 0 dX3_readBoth_36 (by decide) ?_
      refine j_cV C l_X3_93 [.int ((11 : Int32)), .int ((0 : Int32))] [] (fun _ => none) (fun u2 => u2) (fun u2 => []) n_47 hm (fun l u hu => c_Reader_put hu) rfl (Nat.le_of_ble_eq_true rfl) rfl (by omega) (by omega) (fun _ => rfl) dX3_readBoth_37 (fun u2 hm => ?_)
      refine j_aload_n C 1 dX3_readBoth_40 rfl rfl ?_
      refine j_cV C l_X3_46 [] [] (fun _ => none) (fun u3 => u3) (fun u3 => []) n_47 hm (fun l u hu => c_Reader_advance hu) rfl (Nat.le_of_ble_eq_true rfl) rfl (by omega) (by omega) (fun _ => rfl) dX3_readBoth_41 (fun u3 hm => ?_)
      refine j_aload_n C 1 dX3_readBoth_44 rfl rfl ?_
      refine j_iload_n C 2 dX3_readBoth_45 rfl rfl ?_
      refine j_cV C l_X3_100 [.int v1] [] (fun u4 => some (.int u4.1)) (fun u4 => u4.2) (fun u4 => [.int u4.1]) n_47 hm (fun l u hu => IH2 _ _ _ _ hu) rfl (Nat.le_of_ble_eq_true rfl) rfl (by omega) (by omega) (fun _ => rfl) dX3_readBoth_46 (fun u4 hm => ?_)
      refine j_ifne C 54 dX3_readBoth_49 (by decide) hm (fun hm => ?_) (fun hm => ?_)
      · refine j_iconst C 0 dX3_readBoth_52 (by decide) ?_
        obtain rfl := Option.some.inj hm
        exact j_zret C O (by decide) dX3_readBoth_53
      · refine j_aload_n C 1 dX3_readBoth_54 rfl rfl ?_
        refine j_iload_n C 0 dX3_readBoth_55 rfl rfl ?_
        refine j_bipush C 11 dX3_readBoth_56 (by decide) ?_
        refine j_cV C l_X3_97 [.int (hI h 47 3), .int ((11 : Int32))] [] (fun _ => none) (fun u5 => u5) (fun u5 => []) n_47 hm (fun l u hu => c_Reader_aimHere hu) rfl (Nat.le_of_ble_eq_true rfl) rfl (by omega) (by omega) (fun _ => rfl) dX3_readBoth_58 (fun u5 hm => ?_)
        refine j_iinc C 3 [(2, .int (v2 + (1 : Int32))), (3, .int (hI h 47 3)), (0, .ref (G.1 + 47)), (1, .int v1)] dX3_readBoth_61 rfl (add_lit (by decide)) (by decide) rfl ?_
        refine j_goto C 12 dX3_readBoth_64 (by decide) ?_
        obtain rfl := Option.some.inj hm
        refine j_sub (L' := [(0, .ref (G.1 + 47)), (1, .int v1), (2, .int (v2 + (1 : Int32)))]) [2, 3, 0] rfl ?_
        exact O
theorem k_Reader_readBoth_12 {G : jG} {X : jX} {d : Nat} {rc0 : Int32 → Hp → Option (Int32 × Hp)} {rc1 : Int32 → Hp → Option (Int32 × Hp)} {rc2 : Int32 → Hp → Option (Int32 × Hp)} {rc3 : Int32 → Hp → Option (Int32 × Hp)} (C : jC G X cX3_readBoth 4 RX3 (89 + (d + 1)) (2145 + 23 * (d + 1))) (IH0 : ∀ (l : Launch) (v1 : Int32) (h : Hp) (out : (Int32 × Hp)), rc0 v1 h = some out → mt G l yX3_readBoth cX3_readBoth 4 (some .boolean) (89 + d) (2145 + 23 * d) [.ref (G.1 + 47), .int v1] h (some (.int out.1)) out.2) (IH1 : ∀ (l : Launch) (v1 : Int32) (h : Hp) (out : (Int32 × Hp)), rc1 v1 h = some out → mt G l yX3_readBracketed cX3_readBracketed 2 (some .boolean) (89 + d) (2145 + 23 * d) [.ref (G.1 + 47), .int v1] h (some (.int out.1)) out.2) (IH2 : ∀ (l : Launch) (v1 : Int32) (h : Hp) (out : (Int32 × Hp)), rc2 v1 h = some out → mt G l yX3_readPlain cX3_readPlain 4 (some .boolean) (89 + d) (2145 + 23 * d) [.ref (G.1 + 47), .int v1] h (some (.int out.1)) out.2) (IH3 : ∀ (l : Launch) (v1 : Int32) (h : Hp) (out : (Int32 × Hp)), rc3 v1 h = some out → mt G l yX3_readTest cX3_readTest 4 (some .boolean) (89 + d) (2145 + 23 * d) [.ref (G.1 + 47), .int v1] h (some (.int out.1)) out.2) {v1 : Int32} {v2 : Int32} {h : Hp} {out : (Int32 × Hp)} (O : (O_Reader_readBoth G X) out) (hm : lp (fun q => b_Reader_readBoth_12 rc0 rc1 rc2 rc3 q.1 q.2.1 q.2.2) (v1, v2, h) = some out) : J G X 12 [(0, .ref (G.1 + 47)), (1, .int v1), (2, .int v2)] [] h :=
  lp_ok (P := P_Reader_readBoth_12 G X) (O := (O_Reader_readBoth G X)) (fun q r hm O => w_Reader_readBoth_12 C IH0 IH1 IH2 IH3 O hm) hm O
theorem w_Reader_readBoth {G : jG} {X : jX} {d : Nat} {rc0 : Int32 → Hp → Option (Int32 × Hp)} {rc1 : Int32 → Hp → Option (Int32 × Hp)} {rc2 : Int32 → Hp → Option (Int32 × Hp)} {rc3 : Int32 → Hp → Option (Int32 × Hp)} (C : jC G X cX3_readBoth 4 RX3 (89 + (d + 1)) (2145 + 23 * (d + 1))) (IH0 : ∀ (l : Launch) (v1 : Int32) (h : Hp) (out : (Int32 × Hp)), rc0 v1 h = some out → mt G l yX3_readBoth cX3_readBoth 4 (some .boolean) (89 + d) (2145 + 23 * d) [.ref (G.1 + 47), .int v1] h (some (.int out.1)) out.2) (IH1 : ∀ (l : Launch) (v1 : Int32) (h : Hp) (out : (Int32 × Hp)), rc1 v1 h = some out → mt G l yX3_readBracketed cX3_readBracketed 2 (some .boolean) (89 + d) (2145 + 23 * d) [.ref (G.1 + 47), .int v1] h (some (.int out.1)) out.2) (IH2 : ∀ (l : Launch) (v1 : Int32) (h : Hp) (out : (Int32 × Hp)), rc2 v1 h = some out → mt G l yX3_readPlain cX3_readPlain 4 (some .boolean) (89 + d) (2145 + 23 * d) [.ref (G.1 + 47), .int v1] h (some (.int out.1)) out.2) (IH3 : ∀ (l : Launch) (v1 : Int32) (h : Hp) (out : (Int32 × Hp)), rc3 v1 h = some out → mt G l yX3_readTest cX3_readTest 4 (some .boolean) (89 + d) (2145 + 23 * d) [.ref (G.1 + 47), .int v1] h (some (.int out.1)) out.2) {v1 : Int32} {h : Hp} {out : (Int32 × Hp)} (O : (O_Reader_readBoth G X) out) (hm : b_Reader_readBoth rc0 rc1 rc2 rc3 v1 h = some out) : J G X 0 [(0, .ref (G.1 + 47)), (1, .int v1)] [] h := by
  unfold b_Reader_readBoth at hm
  refine j_aload_n C 0 dX3_readBoth_0 rfl rfl ?_
  refine j_iload_n C 1 dX3_readBoth_1 rfl rfl ?_
  refine j_cV C l_X3_100 [.int v1] [] (fun u1 => some (.int u1.1)) (fun u1 => u1.2) (fun u1 => [.int u1.1]) n_47 hm (fun l u hu => IH2 _ _ _ _ hu) rfl (Nat.le_of_ble_eq_true rfl) rfl (by omega) (by omega) (fun _ => rfl) dX3_readBoth_2 (fun u1 hm => ?_)
  refine j_ifne C 10 dX3_readBoth_5 (by decide) hm (fun hm => ?_) (fun hm => ?_)
  · refine j_iconst C 0 dX3_readBoth_8 (by decide) ?_
    obtain rfl := Option.some.inj hm
    exact j_zret C O (by decide) dX3_readBoth_9
  · refine j_iconst C 0 dX3_readBoth_10 (by decide) ?_
    refine j_istore_n C [(2, .int ((0 : Int32))), (0, .ref (G.1 + 47)), (1, .int v1)] dX3_readBoth_11 rfl (by decide) rfl ?_
    refine j_sub (L' := [(0, .ref (G.1 + 47)), (1, .int v1), (2, .int ((0 : Int32)))]) [1, 2, 0] rfl ?_
    exact k_Reader_readBoth_12 C IH0 IH1 IH2 IH3 O hm
theorem w_Reader_readBracketed_39 {G : jG} {X : jX} {d : Nat} {rc0 : Int32 → Hp → Option (Int32 × Hp)} {rc1 : Int32 → Hp → Option (Int32 × Hp)} {rc2 : Int32 → Hp → Option (Int32 × Hp)} {rc3 : Int32 → Hp → Option (Int32 × Hp)} (C : jC G X cX3_readBracketed 2 RX3 (89 + (d + 1)) (2145 + 23 * (d + 1))) (IH0 : ∀ (l : Launch) (v1 : Int32) (h : Hp) (out : (Int32 × Hp)), rc0 v1 h = some out → mt G l yX3_readBoth cX3_readBoth 4 (some .boolean) (89 + d) (2145 + 23 * d) [.ref (G.1 + 47), .int v1] h (some (.int out.1)) out.2) (IH1 : ∀ (l : Launch) (v1 : Int32) (h : Hp) (out : (Int32 × Hp)), rc1 v1 h = some out → mt G l yX3_readBracketed cX3_readBracketed 2 (some .boolean) (89 + d) (2145 + 23 * d) [.ref (G.1 + 47), .int v1] h (some (.int out.1)) out.2) (IH2 : ∀ (l : Launch) (v1 : Int32) (h : Hp) (out : (Int32 × Hp)), rc2 v1 h = some out → mt G l yX3_readPlain cX3_readPlain 4 (some .boolean) (89 + d) (2145 + 23 * d) [.ref (G.1 + 47), .int v1] h (some (.int out.1)) out.2) (IH3 : ∀ (l : Launch) (v1 : Int32) (h : Hp) (out : (Int32 × Hp)), rc3 v1 h = some out → mt G l yX3_readTest cX3_readTest 4 (some .boolean) (89 + d) (2145 + 23 * d) [.ref (G.1 + 47), .int v1] h (some (.int out.1)) out.2) {s0 : Int32} {h : Hp} {out : (Int32 × Hp)} (O : (O_Reader_readBracketed G X) out) (hm : b_Reader_readBracketed_39 rc0 rc1 rc2 rc3 s0 h = some out) : J G X 39 [] [.int s0] h := by
  unfold b_Reader_readBracketed_39 at hm
  obtain ⟨cz, hm⟩ := bz_inv hm
  obtain rfl := Option.some.inj hm
  exact j_zret C O cz dX3_readBracketed_39
theorem w_Reader_readBracketed_38 {G : jG} {X : jX} {d : Nat} {rc0 : Int32 → Hp → Option (Int32 × Hp)} {rc1 : Int32 → Hp → Option (Int32 × Hp)} {rc2 : Int32 → Hp → Option (Int32 × Hp)} {rc3 : Int32 → Hp → Option (Int32 × Hp)} (C : jC G X cX3_readBracketed 2 RX3 (89 + (d + 1)) (2145 + 23 * (d + 1))) (IH0 : ∀ (l : Launch) (v1 : Int32) (h : Hp) (out : (Int32 × Hp)), rc0 v1 h = some out → mt G l yX3_readBoth cX3_readBoth 4 (some .boolean) (89 + d) (2145 + 23 * d) [.ref (G.1 + 47), .int v1] h (some (.int out.1)) out.2) (IH1 : ∀ (l : Launch) (v1 : Int32) (h : Hp) (out : (Int32 × Hp)), rc1 v1 h = some out → mt G l yX3_readBracketed cX3_readBracketed 2 (some .boolean) (89 + d) (2145 + 23 * d) [.ref (G.1 + 47), .int v1] h (some (.int out.1)) out.2) (IH2 : ∀ (l : Launch) (v1 : Int32) (h : Hp) (out : (Int32 × Hp)), rc2 v1 h = some out → mt G l yX3_readPlain cX3_readPlain 4 (some .boolean) (89 + d) (2145 + 23 * d) [.ref (G.1 + 47), .int v1] h (some (.int out.1)) out.2) (IH3 : ∀ (l : Launch) (v1 : Int32) (h : Hp) (out : (Int32 × Hp)), rc3 v1 h = some out → mt G l yX3_readTest cX3_readTest 4 (some .boolean) (89 + d) (2145 + 23 * d) [.ref (G.1 + 47), .int v1] h (some (.int out.1)) out.2) {h : Hp} {out : (Int32 × Hp)} (O : (O_Reader_readBracketed G X) out) (hm : b_Reader_readBracketed_38 rc0 rc1 rc2 rc3 h = some out) : J G X 38 [] [] h := by
  unfold b_Reader_readBracketed_38 at hm
  refine j_iconst C 0 dX3_readBracketed_38 (by decide) ?_
  refine j_sub (L' := []) [] rfl ?_
  exact w_Reader_readBracketed_39 C IH0 IH1 IH2 IH3 O hm
theorem w_Reader_readBracketed {G : jG} {X : jX} {d : Nat} {rc0 : Int32 → Hp → Option (Int32 × Hp)} {rc1 : Int32 → Hp → Option (Int32 × Hp)} {rc2 : Int32 → Hp → Option (Int32 × Hp)} {rc3 : Int32 → Hp → Option (Int32 × Hp)} (C : jC G X cX3_readBracketed 2 RX3 (89 + (d + 1)) (2145 + 23 * (d + 1))) (IH0 : ∀ (l : Launch) (v1 : Int32) (h : Hp) (out : (Int32 × Hp)), rc0 v1 h = some out → mt G l yX3_readBoth cX3_readBoth 4 (some .boolean) (89 + d) (2145 + 23 * d) [.ref (G.1 + 47), .int v1] h (some (.int out.1)) out.2) (IH1 : ∀ (l : Launch) (v1 : Int32) (h : Hp) (out : (Int32 × Hp)), rc1 v1 h = some out → mt G l yX3_readBracketed cX3_readBracketed 2 (some .boolean) (89 + d) (2145 + 23 * d) [.ref (G.1 + 47), .int v1] h (some (.int out.1)) out.2) (IH2 : ∀ (l : Launch) (v1 : Int32) (h : Hp) (out : (Int32 × Hp)), rc2 v1 h = some out → mt G l yX3_readPlain cX3_readPlain 4 (some .boolean) (89 + d) (2145 + 23 * d) [.ref (G.1 + 47), .int v1] h (some (.int out.1)) out.2) (IH3 : ∀ (l : Launch) (v1 : Int32) (h : Hp) (out : (Int32 × Hp)), rc3 v1 h = some out → mt G l yX3_readTest cX3_readTest 4 (some .boolean) (89 + d) (2145 + 23 * d) [.ref (G.1 + 47), .int v1] h (some (.int out.1)) out.2) {v1 : Int32} {h : Hp} {out : (Int32 × Hp)} (O : (O_Reader_readBracketed G X) out) (hm : b_Reader_readBracketed rc0 rc1 rc2 rc3 v1 h = some out) : J G X 0 [(0, .ref (G.1 + 47)), (1, .int v1)] [] h := by
  unfold b_Reader_readBracketed at hm
  refine j_iload_n C 1 dX3_readBracketed_0 rfl rfl ?_
  refine j_bipush C 8 dX3_readBracketed_1 (by decide) ?_
  refine j_if_icmplt C 11 dX3_readBracketed_3 (by decide) hm (fun hm => ?_) (fun hm => ?_)
  · refine j_aload_n C 0 dX3_readBracketed_11 rfl rfl ?_
    refine j_cV C l_X3_46 [] [] (fun _ => none) (fun u1 => u1) (fun u1 => []) n_47 hm (fun l u hu => c_Reader_advance hu) rfl (Nat.le_of_ble_eq_true rfl) rfl (by omega) (by omega) (fun _ => rfl) dX3_readBracketed_12 (fun u1 hm => ?_)
    refine j_aload_n C 0 dX3_readBracketed_15 rfl rfl ?_
    refine j_iload_n C 1 dX3_readBracketed_16 rfl rfl ?_
    refine j_iconst C 1 dX3_readBracketed_17 (by decide) ?_
    refine j_iadd C dX3_readBracketed_18 ?_
    refine j_cV C l_X3_83 [.int (v1 + ((1 : Int32)))] [] (fun u2 => some (.int u2.1)) (fun u2 => u2.2) (fun u2 => [.int u2.1]) n_47 hm (fun l u hu => IH3 _ _ _ _ hu) rfl (Nat.le_of_ble_eq_true rfl) rfl (by omega) (by omega) (fun _ => rfl) dX3_readBracketed_19 (fun u2 hm => ?_)
    refine j_ifeq C 38 dX3_readBracketed_22 (by decide) hm (fun hm => ?_) (fun hm => ?_)
    · refine j_sub (L' := []) [] rfl ?_
      exact w_Reader_readBracketed_38 C IH0 IH1 IH2 IH3 O hm
    · refine j_aload_n C 0 dX3_readBracketed_25 rfl rfl ?_
      refine j_bipush C 41 dX3_readBracketed_26 (by decide) ?_
      refine j_cV C l_X3_114 [.int ((41 : Int32))] [] (fun u3 => some (.int u3.1)) (fun u3 => u3.2) (fun u3 => [.int u3.1]) n_47 hm (fun l u hu => c_Reader_takes hu) rfl (Nat.le_of_ble_eq_true rfl) rfl (by omega) (by omega) (fun _ => rfl) dX3_readBracketed_28 (fun u3 hm => ?_)
      refine j_ifeq C 38 dX3_readBracketed_31 (by decide) hm (fun hm => ?_) (fun hm => ?_)
      · refine j_sub (L' := []) [] rfl ?_
        exact w_Reader_readBracketed_38 C IH0 IH1 IH2 IH3 O hm
      · refine j_iconst C 1 dX3_readBracketed_34 (by decide) ?_
        refine j_goto C 39 dX3_readBracketed_35 (by decide) ?_
        refine j_sub (L' := []) [] rfl ?_
        exact w_Reader_readBracketed_39 C IH0 IH1 IH2 IH3 O hm
  · refine j_aload_n C 0 dX3_readBracketed_6 rfl rfl ?_
    refine j_cV C l_X3_66 [] [] (fun u4 => some (.int u4.1)) (fun u4 => u4.2) (fun u4 => [.int u4.1]) n_47 hm (fun l u hu => c_Reader_fail hu) rfl (Nat.le_of_ble_eq_true rfl) rfl (by omega) (by omega) (fun _ => rfl) dX3_readBracketed_7 (fun u4 hm => ?_)
    obtain ⟨cz, hm⟩ := bz_inv hm
    obtain rfl := Option.some.inj hm
    exact j_zret C O cz dX3_readBracketed_10
theorem w_Reader_readPlain_29 {G : jG} {X : jX} {d : Nat} {rc0 : Int32 → Hp → Option (Int32 × Hp)} {rc1 : Int32 → Hp → Option (Int32 × Hp)} {rc2 : Int32 → Hp → Option (Int32 × Hp)} {rc3 : Int32 → Hp → Option (Int32 × Hp)} (C : jC G X cX3_readPlain 4 RX3 (89 + (d + 1)) (2145 + 23 * (d + 1))) (IH0 : ∀ (l : Launch) (v1 : Int32) (h : Hp) (out : (Int32 × Hp)), rc0 v1 h = some out → mt G l yX3_readBoth cX3_readBoth 4 (some .boolean) (89 + d) (2145 + 23 * d) [.ref (G.1 + 47), .int v1] h (some (.int out.1)) out.2) (IH1 : ∀ (l : Launch) (v1 : Int32) (h : Hp) (out : (Int32 × Hp)), rc1 v1 h = some out → mt G l yX3_readBracketed cX3_readBracketed 2 (some .boolean) (89 + d) (2145 + 23 * d) [.ref (G.1 + 47), .int v1] h (some (.int out.1)) out.2) (IH2 : ∀ (l : Launch) (v1 : Int32) (h : Hp) (out : (Int32 × Hp)), rc2 v1 h = some out → mt G l yX3_readPlain cX3_readPlain 4 (some .boolean) (89 + d) (2145 + 23 * d) [.ref (G.1 + 47), .int v1] h (some (.int out.1)) out.2) (IH3 : ∀ (l : Launch) (v1 : Int32) (h : Hp) (out : (Int32 × Hp)), rc3 v1 h = some out → mt G l yX3_readTest cX3_readTest 4 (some .boolean) (89 + d) (2145 + 23 * d) [.ref (G.1 + 47), .int v1] h (some (.int out.1)) out.2) {v1 : Int32} {v3 : Int32} {s0 : Int32} {h : Hp} {out : ((Int32 × Int32 × Int32 × Hp) ⊕ (Int32 × Hp))} (O : (O_Reader_readPlain_4 G X) out) (hm : b_Reader_readPlain_29 rc0 rc1 rc2 rc3 v1 v3 s0 h = some out) : J G X 29 [(0, .ref (G.1 + 47)), (1, .int v1), (3, .int v3)] [.int s0] h := by
  unfold b_Reader_readPlain_29 at hm
  refine j_istore_n C [(2, .int s0), (0, .ref (G.1 + 47)), (1, .int v1), (3, .int v3)] dX3_readPlain_29 rfl (by decide) rfl ?_
  refine j_aload_n C 1 dX3_readPlain_30 rfl rfl ?_
  refine j_cV C l_X3_46 [] [] (fun _ => none) (fun u1 => u1) (fun u1 => []) n_47 hm (fun l u hu => c_Reader_advance hu) rfl (Nat.le_of_ble_eq_true rfl) rfl (by omega) (by omega) (fun _ => rfl) dX3_readPlain_31 (fun u1 hm => ?_)
  refine j_iinc C 3 [(3, .int (v3 + (1 : Int32))), (2, .int s0), (0, .ref (G.1 + 47)), (1, .int v1)] dX3_readPlain_34 rfl (add_lit (by decide)) (by decide) rfl ?_
  refine j_goto C 4 dX3_readPlain_37 (by decide) ?_
  obtain rfl := Option.some.inj hm
  refine j_sub (L' := [(0, .ref (G.1 + 47)), (1, .int v1), (2, .int s0), (3, .int (v3 + (1 : Int32)))]) [2, 3, 1, 0] rfl ?_
  exact O
theorem w_Reader_readPlain_115 {G : jG} {X : jX} {d : Nat} {rc0 : Int32 → Hp → Option (Int32 × Hp)} {rc1 : Int32 → Hp → Option (Int32 × Hp)} {rc2 : Int32 → Hp → Option (Int32 × Hp)} {rc3 : Int32 → Hp → Option (Int32 × Hp)} (C : jC G X cX3_readPlain 4 RX3 (89 + (d + 1)) (2145 + 23 * (d + 1))) (IH0 : ∀ (l : Launch) (v1 : Int32) (h : Hp) (out : (Int32 × Hp)), rc0 v1 h = some out → mt G l yX3_readBoth cX3_readBoth 4 (some .boolean) (89 + d) (2145 + 23 * d) [.ref (G.1 + 47), .int v1] h (some (.int out.1)) out.2) (IH1 : ∀ (l : Launch) (v1 : Int32) (h : Hp) (out : (Int32 × Hp)), rc1 v1 h = some out → mt G l yX3_readBracketed cX3_readBracketed 2 (some .boolean) (89 + d) (2145 + 23 * d) [.ref (G.1 + 47), .int v1] h (some (.int out.1)) out.2) (IH2 : ∀ (l : Launch) (v1 : Int32) (h : Hp) (out : (Int32 × Hp)), rc2 v1 h = some out → mt G l yX3_readPlain cX3_readPlain 4 (some .boolean) (89 + d) (2145 + 23 * d) [.ref (G.1 + 47), .int v1] h (some (.int out.1)) out.2) (IH3 : ∀ (l : Launch) (v1 : Int32) (h : Hp) (out : (Int32 × Hp)), rc3 v1 h = some out → mt G l yX3_readTest cX3_readTest 4 (some .boolean) (89 + d) (2145 + 23 * d) [.ref (G.1 + 47), .int v1] h (some (.int out.1)) out.2) {h : Hp} {out : (Int32 × Hp)} (O : (O_Reader_readPlain G X) out) (hm : b_Reader_readPlain_115 rc0 rc1 rc2 rc3 h = some out) : J G X 115 [] [] h := by
  unfold b_Reader_readPlain_115 at hm
  refine j_iconst C 1 dX3_readPlain_115 (by decide) ?_
  obtain rfl := Option.some.inj hm
  exact j_zret C O (by decide) dX3_readPlain_116
theorem w_Reader_readPlain_104 {G : jG} {X : jX} {d : Nat} {rc0 : Int32 → Hp → Option (Int32 × Hp)} {rc1 : Int32 → Hp → Option (Int32 × Hp)} {rc2 : Int32 → Hp → Option (Int32 × Hp)} {rc3 : Int32 → Hp → Option (Int32 × Hp)} (C : jC G X cX3_readPlain 4 RX3 (89 + (d + 1)) (2145 + 23 * (d + 1))) (IH0 : ∀ (l : Launch) (v1 : Int32) (h : Hp) (out : (Int32 × Hp)), rc0 v1 h = some out → mt G l yX3_readBoth cX3_readBoth 4 (some .boolean) (89 + d) (2145 + 23 * d) [.ref (G.1 + 47), .int v1] h (some (.int out.1)) out.2) (IH1 : ∀ (l : Launch) (v1 : Int32) (h : Hp) (out : (Int32 × Hp)), rc1 v1 h = some out → mt G l yX3_readBracketed cX3_readBracketed 2 (some .boolean) (89 + d) (2145 + 23 * d) [.ref (G.1 + 47), .int v1] h (some (.int out.1)) out.2) (IH2 : ∀ (l : Launch) (v1 : Int32) (h : Hp) (out : (Int32 × Hp)), rc2 v1 h = some out → mt G l yX3_readPlain cX3_readPlain 4 (some .boolean) (89 + d) (2145 + 23 * d) [.ref (G.1 + 47), .int v1] h (some (.int out.1)) out.2) (IH3 : ∀ (l : Launch) (v1 : Int32) (h : Hp) (out : (Int32 × Hp)), rc3 v1 h = some out → mt G l yX3_readTest cX3_readTest 4 (some .boolean) (89 + d) (2145 + 23 * d) [.ref (G.1 + 47), .int v1] h (some (.int out.1)) out.2) {v2 : Int32} {h : Hp} {out : (Int32 × Hp)} (O : (O_Reader_readPlain G X) out) (hm : b_Reader_readPlain_104 rc0 rc1 rc2 rc3 v2 h = some out) : J G X 104 [(0, .ref (G.1 + 47)), (2, .int v2)] [] h := by
  unfold b_Reader_readPlain_104 at hm
  refine j_iload_n C 1 dX3_readPlain_104 rfl rfl ?_
  refine j_ifeq C 115 dX3_readPlain_105 (by decide) hm (fun hm => ?_) (fun hm => ?_)
  · refine j_sub (L' := []) [] rfl ?_
    exact w_Reader_readPlain_115 C IH0 IH1 IH2 IH3 O hm
  · refine j_aload_n C 0 dX3_readPlain_108 rfl rfl ?_
    refine j_bipush C 9 dX3_readPlain_109 (by decide) ?_
    refine j_iconst C 0 dX3_readPlain_111 (by decide) ?_
    refine j_cV C l_X3_93 [.int ((9 : Int32)), .int ((0 : Int32))] [] (fun _ => none) (fun u1 => u1) (fun u1 => []) n_47 hm (fun l u hu => c_Reader_put hu) rfl (Nat.le_of_ble_eq_true rfl) rfl (by omega) (by omega) (fun _ => rfl) dX3_readPlain_112 (fun u1 hm => ?_)
    refine j_sub (L' := []) [] rfl ?_
    exact w_Reader_readPlain_115 C IH0 IH1 IH2 IH3 O hm
theorem w_Reader_readPlain_40 {G : jG} {X : jX} {d : Nat} {rc0 : Int32 → Hp → Option (Int32 × Hp)} {rc1 : Int32 → Hp → Option (Int32 × Hp)} {rc2 : Int32 → Hp → Option (Int32 × Hp)} {rc3 : Int32 → Hp → Option (Int32 × Hp)} (C : jC G X cX3_readPlain 4 RX3 (89 + (d + 1)) (2145 + 23 * (d + 1))) (IH0 : ∀ (l : Launch) (v1 : Int32) (h : Hp) (out : (Int32 × Hp)), rc0 v1 h = some out → mt G l yX3_readBoth cX3_readBoth 4 (some .boolean) (89 + d) (2145 + 23 * d) [.ref (G.1 + 47), .int v1] h (some (.int out.1)) out.2) (IH1 : ∀ (l : Launch) (v1 : Int32) (h : Hp) (out : (Int32 × Hp)), rc1 v1 h = some out → mt G l yX3_readBracketed cX3_readBracketed 2 (some .boolean) (89 + d) (2145 + 23 * d) [.ref (G.1 + 47), .int v1] h (some (.int out.1)) out.2) (IH2 : ∀ (l : Launch) (v1 : Int32) (h : Hp) (out : (Int32 × Hp)), rc2 v1 h = some out → mt G l yX3_readPlain cX3_readPlain 4 (some .boolean) (89 + d) (2145 + 23 * d) [.ref (G.1 + 47), .int v1] h (some (.int out.1)) out.2) (IH3 : ∀ (l : Launch) (v1 : Int32) (h : Hp) (out : (Int32 × Hp)), rc3 v1 h = some out → mt G l yX3_readTest cX3_readTest 4 (some .boolean) (89 + d) (2145 + 23 * d) [.ref (G.1 + 47), .int v1] h (some (.int out.1)) out.2) {v1 : Int32} {v2 : Int32} {h : Hp} {out : (Int32 × Hp)} (O : (O_Reader_readPlain G X) out) (hm : b_Reader_readPlain_40 rc0 rc1 rc2 rc3 v1 v2 h = some out) : J G X 40 [(0, .ref (G.1 + 47)), (1, .int v1), (2, .int v2)] [] h := by
  unfold b_Reader_readPlain_40 at hm
  refine j_aload_n C 0 dX3_readPlain_40 rfl rfl ?_
  refine j_bipush C 40 dX3_readPlain_41 (by decide) ?_
  refine j_cV C l_X3_62 [.int ((40 : Int32))] [] (fun u1 => some (.int u1)) (fun _ => h) (fun u1 => [.int u1]) n_47 hm (fun l u hu => c_Reader_isOther hu) rfl (Nat.le_of_ble_eq_true rfl) rfl (by omega) (by omega) (fun _ => rfl) dX3_readPlain_43 (fun u1 hm => ?_)
  refine j_ifeq C 59 dX3_readPlain_46 (by decide) hm (fun hm => ?_) (fun hm => ?_)
  · refine j_aload_n C 0 dX3_readPlain_59 rfl rfl ?_
    refine j_iload_n C 1 dX3_readPlain_60 rfl rfl ?_
    refine j_cV C l_X3_77 [.int v1] [] (fun u2 => some (.int u2.1)) (fun u2 => u2.2) (fun u2 => [.int u2.1]) n_47 hm (fun l u hu => c_Reader_readSum hu) rfl (Nat.le_of_ble_eq_true rfl) rfl (by omega) (by omega) (fun _ => rfl) dX3_readPlain_61 (fun u2 hm => ?_)
    refine j_ifne C 69 dX3_readPlain_64 (by decide) hm (fun hm => ?_) (fun hm => ?_)
    · refine j_iconst C 0 dX3_readPlain_67 (by decide) ?_
      obtain rfl := Option.some.inj hm
      exact j_zret C O (by decide) dX3_readPlain_68
    · refine j_aload_n C 0 dX3_readPlain_69 rfl rfl ?_
      refine j_cV C l_X3_110 [] [] (fun u3 => some (.int u3)) (fun _ => u2.2) (fun u3 => [.int u3]) n_47 hm (fun l u hu => c_Reader_comparisonHere hu) rfl (Nat.le_of_ble_eq_true rfl) rfl (by omega) (by omega) (fun _ => rfl) dX3_readPlain_70 (fun u3 hm => ?_)
      refine j_istore_n C [(3, .int u3), (0, .ref (G.1 + 47)), (1, .int v1), (2, .int v2)] dX3_readPlain_73 rfl (by decide) rfl ?_
      refine j_iload_n C 0 dX3_readPlain_74 rfl rfl ?_
      refine j_iconst C (-1 : Int32) dX3_readPlain_75 (by decide) ?_
      refine j_if_icmpne C 84 dX3_readPlain_76 (by decide) hm (fun hm => ?_) (fun hm => ?_)
      · refine j_aload_n C 1 dX3_readPlain_79 rfl rfl ?_
        refine j_cV C l_X3_66 [] [] (fun u7 => some (.int u7.1)) (fun u7 => u7.2) (fun u7 => [.int u7.1]) n_47 hm (fun l u hu => c_Reader_fail hu) rfl (Nat.le_of_ble_eq_true rfl) rfl (by omega) (by omega) (fun _ => rfl) dX3_readPlain_80 (fun u7 hm => ?_)
        obtain ⟨cz, hm⟩ := bz_inv hm
        obtain rfl := Option.some.inj hm
        exact j_zret C O cz dX3_readPlain_83
      · refine j_aload_n C 1 dX3_readPlain_84 rfl rfl ?_
        refine j_cV C l_X3_46 [] [] (fun _ => none) (fun u4 => u4) (fun u4 => []) n_47 hm (fun l u hu => c_Reader_advance hu) rfl (Nat.le_of_ble_eq_true rfl) rfl (by omega) (by omega) (fun _ => rfl) dX3_readPlain_85 (fun u4 hm => ?_)
        refine j_aload_n C 1 dX3_readPlain_88 rfl rfl ?_
        refine j_iload_n C 2 dX3_readPlain_89 rfl rfl ?_
        refine j_cV C l_X3_77 [.int v1] [] (fun u5 => some (.int u5.1)) (fun u5 => u5.2) (fun u5 => [.int u5.1]) n_47 hm (fun l u hu => c_Reader_readSum hu) rfl (Nat.le_of_ble_eq_true rfl) rfl (by omega) (by omega) (fun _ => rfl) dX3_readPlain_90 (fun u5 hm => ?_)
        refine j_ifne C 98 dX3_readPlain_93 (by decide) hm (fun hm => ?_) (fun hm => ?_)
        · refine j_iconst C 0 dX3_readPlain_96 (by decide) ?_
          obtain rfl := Option.some.inj hm
          exact j_zret C O (by decide) dX3_readPlain_97
        · refine j_aload_n C 1 dX3_readPlain_98 rfl rfl ?_
          refine j_iload_n C 0 dX3_readPlain_99 rfl rfl ?_
          refine j_iconst C 0 dX3_readPlain_100 (by decide) ?_
          refine j_cV C l_X3_93 [.int u3, .int ((0 : Int32))] [] (fun _ => none) (fun u6 => u6) (fun u6 => []) n_47 hm (fun l u hu => c_Reader_put hu) rfl (Nat.le_of_ble_eq_true rfl) rfl (by omega) (by omega) (fun _ => rfl) dX3_readPlain_101 (fun u6 hm => ?_)
          refine j_sub (L' := [(0, .ref (G.1 + 47)), (2, .int v2)]) [1, 3] rfl ?_
          exact w_Reader_readPlain_104 C IH0 IH1 IH2 IH3 O hm
  · refine j_aload_n C 0 dX3_readPlain_49 rfl rfl ?_
    refine j_iload_n C 1 dX3_readPlain_50 rfl rfl ?_
    refine j_cV C l_X3_107 [.int v1] [] (fun u8 => some (.int u8.1)) (fun u8 => u8.2) (fun u8 => [.int u8.1]) n_47 hm (fun l u hu => IH1 _ _ _ _ hu) rfl (Nat.le_of_ble_eq_true rfl) rfl (by omega) (by omega) (fun _ => rfl) dX3_readPlain_51 (fun u8 hm => ?_)
    refine j_ifne C 104 dX3_readPlain_54 (by decide) hm (fun hm => ?_) (fun hm => ?_)
    · refine j_iconst C 0 dX3_readPlain_57 (by decide) ?_
      obtain rfl := Option.some.inj hm
      exact j_zret C O (by decide) dX3_readPlain_58
    · refine j_sub (L' := [(0, .ref (G.1 + 47)), (2, .int v2)]) [0, 2] rfl ?_
      exact w_Reader_readPlain_104 C IH0 IH1 IH2 IH3 O hm
theorem w_Reader_readPlain_4 {G : jG} {X : jX} {d : Nat} {rc0 : Int32 → Hp → Option (Int32 × Hp)} {rc1 : Int32 → Hp → Option (Int32 × Hp)} {rc2 : Int32 → Hp → Option (Int32 × Hp)} {rc3 : Int32 → Hp → Option (Int32 × Hp)} (C : jC G X cX3_readPlain 4 RX3 (89 + (d + 1)) (2145 + 23 * (d + 1))) (IH0 : ∀ (l : Launch) (v1 : Int32) (h : Hp) (out : (Int32 × Hp)), rc0 v1 h = some out → mt G l yX3_readBoth cX3_readBoth 4 (some .boolean) (89 + d) (2145 + 23 * d) [.ref (G.1 + 47), .int v1] h (some (.int out.1)) out.2) (IH1 : ∀ (l : Launch) (v1 : Int32) (h : Hp) (out : (Int32 × Hp)), rc1 v1 h = some out → mt G l yX3_readBracketed cX3_readBracketed 2 (some .boolean) (89 + d) (2145 + 23 * d) [.ref (G.1 + 47), .int v1] h (some (.int out.1)) out.2) (IH2 : ∀ (l : Launch) (v1 : Int32) (h : Hp) (out : (Int32 × Hp)), rc2 v1 h = some out → mt G l yX3_readPlain cX3_readPlain 4 (some .boolean) (89 + d) (2145 + 23 * d) [.ref (G.1 + 47), .int v1] h (some (.int out.1)) out.2) (IH3 : ∀ (l : Launch) (v1 : Int32) (h : Hp) (out : (Int32 × Hp)), rc3 v1 h = some out → mt G l yX3_readTest cX3_readTest 4 (some .boolean) (89 + d) (2145 + 23 * d) [.ref (G.1 + 47), .int v1] h (some (.int out.1)) out.2) {v1 : Int32} {v2 : Int32} {v3 : Int32} {h : Hp} {out : ((Int32 × Int32 × Int32 × Hp) ⊕ (Int32 × Hp))} (O : (O_Reader_readPlain_4 G X) out) (hm : b_Reader_readPlain_4 rc0 rc1 rc2 rc3 v1 v2 v3 h = some out) : J G X 4 [(0, .ref (G.1 + 47)), (1, .int v1), (2, .int v2), (3, .int v3)] [] h := by
  unfold b_Reader_readPlain_4 at hm
  refine j_iload_n C 3 dX3_readPlain_4 rfl rfl ?_
  refine j_sipush C 400 dX3_readPlain_5 (by decide) ?_
  refine j_if_icmpge C 40 dX3_readPlain_8 (by decide) hm (fun hm => ?_) (fun hm => ?_)
  · obtain ⟨o_0, hm_0, rfl⟩ := inr_inv hm
    refine j_sub (L' := [(0, .ref (G.1 + 47)), (1, .int v1), (2, .int v2)]) [0, 1, 2] rfl ?_
    exact w_Reader_readPlain_40 C IH0 IH1 IH2 IH3 O hm_0
  · refine j_aload_n C 0 dX3_readPlain_11 rfl rfl ?_
    refine j_ldcS C (i := 10) rfl dX3_readPlain_12 ?_
    refine j_cV C l_X3_71 [.ref (skg G 10)] [] (fun u1 => some (.int u1)) (fun _ => h) (fun u1 => [.int u1]) n_47 hm (fun l u hu => c_Reader_isWord hu) rfl (Nat.le_of_ble_eq_true rfl) rfl (by omega) (by omega) (fun _ => rfl) dX3_readPlain_14 (fun u1 hm => ?_)
    refine j_ifeq C 40 dX3_readPlain_17 (by decide) hm (fun hm => ?_) (fun hm => ?_)
    · obtain ⟨o_0, hm_0, rfl⟩ := inr_inv hm
      refine j_sub (L' := [(0, .ref (G.1 + 47)), (1, .int v1), (2, .int v2)]) [0, 1, 2] rfl ?_
      exact w_Reader_readPlain_40 C IH0 IH1 IH2 IH3 O hm_0
    · refine j_iload_n C 2 dX3_readPlain_20 rfl rfl ?_
      refine j_ifne C 28 dX3_readPlain_21 (by decide) hm (fun hm => ?_) (fun hm => ?_)
      · refine j_iconst C 1 dX3_readPlain_24 (by decide) ?_
        refine j_goto C 29 dX3_readPlain_25 (by decide) ?_
        refine j_sub (L' := [(0, .ref (G.1 + 47)), (1, .int v1), (3, .int v3)]) [0, 1, 3] rfl ?_
        exact w_Reader_readPlain_29 C IH0 IH1 IH2 IH3 O hm
      · refine j_iconst C 0 dX3_readPlain_28 (by decide) ?_
        refine j_sub (L' := [(0, .ref (G.1 + 47)), (1, .int v1), (3, .int v3)]) [0, 1, 3] rfl ?_
        exact w_Reader_readPlain_29 C IH0 IH1 IH2 IH3 O hm
theorem k_Reader_readPlain_4 {G : jG} {X : jX} {d : Nat} {rc0 : Int32 → Hp → Option (Int32 × Hp)} {rc1 : Int32 → Hp → Option (Int32 × Hp)} {rc2 : Int32 → Hp → Option (Int32 × Hp)} {rc3 : Int32 → Hp → Option (Int32 × Hp)} (C : jC G X cX3_readPlain 4 RX3 (89 + (d + 1)) (2145 + 23 * (d + 1))) (IH0 : ∀ (l : Launch) (v1 : Int32) (h : Hp) (out : (Int32 × Hp)), rc0 v1 h = some out → mt G l yX3_readBoth cX3_readBoth 4 (some .boolean) (89 + d) (2145 + 23 * d) [.ref (G.1 + 47), .int v1] h (some (.int out.1)) out.2) (IH1 : ∀ (l : Launch) (v1 : Int32) (h : Hp) (out : (Int32 × Hp)), rc1 v1 h = some out → mt G l yX3_readBracketed cX3_readBracketed 2 (some .boolean) (89 + d) (2145 + 23 * d) [.ref (G.1 + 47), .int v1] h (some (.int out.1)) out.2) (IH2 : ∀ (l : Launch) (v1 : Int32) (h : Hp) (out : (Int32 × Hp)), rc2 v1 h = some out → mt G l yX3_readPlain cX3_readPlain 4 (some .boolean) (89 + d) (2145 + 23 * d) [.ref (G.1 + 47), .int v1] h (some (.int out.1)) out.2) (IH3 : ∀ (l : Launch) (v1 : Int32) (h : Hp) (out : (Int32 × Hp)), rc3 v1 h = some out → mt G l yX3_readTest cX3_readTest 4 (some .boolean) (89 + d) (2145 + 23 * d) [.ref (G.1 + 47), .int v1] h (some (.int out.1)) out.2) {v1 : Int32} {v2 : Int32} {v3 : Int32} {h : Hp} {out : (Int32 × Hp)} (O : (O_Reader_readPlain G X) out) (hm : lp (fun q => b_Reader_readPlain_4 rc0 rc1 rc2 rc3 q.1 q.2.1 q.2.2.1 q.2.2.2) (v1, v2, v3, h) = some out) : J G X 4 [(0, .ref (G.1 + 47)), (1, .int v1), (2, .int v2), (3, .int v3)] [] h :=
  lp_ok (P := P_Reader_readPlain_4 G X) (O := (O_Reader_readPlain G X)) (fun q r hm O => w_Reader_readPlain_4 C IH0 IH1 IH2 IH3 O hm) hm O
theorem w_Reader_readPlain {G : jG} {X : jX} {d : Nat} {rc0 : Int32 → Hp → Option (Int32 × Hp)} {rc1 : Int32 → Hp → Option (Int32 × Hp)} {rc2 : Int32 → Hp → Option (Int32 × Hp)} {rc3 : Int32 → Hp → Option (Int32 × Hp)} (C : jC G X cX3_readPlain 4 RX3 (89 + (d + 1)) (2145 + 23 * (d + 1))) (IH0 : ∀ (l : Launch) (v1 : Int32) (h : Hp) (out : (Int32 × Hp)), rc0 v1 h = some out → mt G l yX3_readBoth cX3_readBoth 4 (some .boolean) (89 + d) (2145 + 23 * d) [.ref (G.1 + 47), .int v1] h (some (.int out.1)) out.2) (IH1 : ∀ (l : Launch) (v1 : Int32) (h : Hp) (out : (Int32 × Hp)), rc1 v1 h = some out → mt G l yX3_readBracketed cX3_readBracketed 2 (some .boolean) (89 + d) (2145 + 23 * d) [.ref (G.1 + 47), .int v1] h (some (.int out.1)) out.2) (IH2 : ∀ (l : Launch) (v1 : Int32) (h : Hp) (out : (Int32 × Hp)), rc2 v1 h = some out → mt G l yX3_readPlain cX3_readPlain 4 (some .boolean) (89 + d) (2145 + 23 * d) [.ref (G.1 + 47), .int v1] h (some (.int out.1)) out.2) (IH3 : ∀ (l : Launch) (v1 : Int32) (h : Hp) (out : (Int32 × Hp)), rc3 v1 h = some out → mt G l yX3_readTest cX3_readTest 4 (some .boolean) (89 + d) (2145 + 23 * d) [.ref (G.1 + 47), .int v1] h (some (.int out.1)) out.2) {v1 : Int32} {h : Hp} {out : (Int32 × Hp)} (O : (O_Reader_readPlain G X) out) (hm : b_Reader_readPlain rc0 rc1 rc2 rc3 v1 h = some out) : J G X 0 [(0, .ref (G.1 + 47)), (1, .int v1)] [] h := by
  unfold b_Reader_readPlain at hm
  refine j_iconst C 0 dX3_readPlain_0 (by decide) ?_
  refine j_istore_n C [(2, .int ((0 : Int32))), (0, .ref (G.1 + 47)), (1, .int v1)] dX3_readPlain_1 rfl (by decide) rfl ?_
  refine j_iconst C 0 dX3_readPlain_2 (by decide) ?_
  refine j_istore_n C [(3, .int ((0 : Int32))), (2, .int ((0 : Int32))), (0, .ref (G.1 + 47)), (1, .int v1)] dX3_readPlain_3 rfl (by decide) rfl ?_
  refine j_sub (L' := [(0, .ref (G.1 + 47)), (1, .int v1), (2, .int ((0 : Int32))), (3, .int ((0 : Int32)))]) [2, 3, 1, 0] rfl ?_
  exact k_Reader_readPlain_4 C IH0 IH1 IH2 IH3 O hm
theorem w_Reader_readTest_67 {G : jG} {X : jX} {d : Nat} {rc0 : Int32 → Hp → Option (Int32 × Hp)} {rc1 : Int32 → Hp → Option (Int32 × Hp)} {rc2 : Int32 → Hp → Option (Int32 × Hp)} {rc3 : Int32 → Hp → Option (Int32 × Hp)} (C : jC G X cX3_readTest 4 RX3 (89 + (d + 1)) (2145 + 23 * (d + 1))) (IH0 : ∀ (l : Launch) (v1 : Int32) (h : Hp) (out : (Int32 × Hp)), rc0 v1 h = some out → mt G l yX3_readBoth cX3_readBoth 4 (some .boolean) (89 + d) (2145 + 23 * d) [.ref (G.1 + 47), .int v1] h (some (.int out.1)) out.2) (IH1 : ∀ (l : Launch) (v1 : Int32) (h : Hp) (out : (Int32 × Hp)), rc1 v1 h = some out → mt G l yX3_readBracketed cX3_readBracketed 2 (some .boolean) (89 + d) (2145 + 23 * d) [.ref (G.1 + 47), .int v1] h (some (.int out.1)) out.2) (IH2 : ∀ (l : Launch) (v1 : Int32) (h : Hp) (out : (Int32 × Hp)), rc2 v1 h = some out → mt G l yX3_readPlain cX3_readPlain 4 (some .boolean) (89 + d) (2145 + 23 * d) [.ref (G.1 + 47), .int v1] h (some (.int out.1)) out.2) (IH3 : ∀ (l : Launch) (v1 : Int32) (h : Hp) (out : (Int32 × Hp)), rc3 v1 h = some out → mt G l yX3_readTest cX3_readTest 4 (some .boolean) (89 + d) (2145 + 23 * d) [.ref (G.1 + 47), .int v1] h (some (.int out.1)) out.2) {h : Hp} {out : (Int32 × Hp)} (O : (O_Reader_readTest G X) out) (hm : b_Reader_readTest_67 rc0 rc1 rc2 rc3 h = some out) : J G X 67 [] [] h := by
  unfold b_Reader_readTest_67 at hm
  refine j_iconst C 1 dX3_readTest_67 (by decide) ?_
  obtain rfl := Option.some.inj hm
  exact j_zret C O (by decide) dX3_readTest_68
theorem w_Reader_readTest_12 {G : jG} {X : jX} {d : Nat} {rc0 : Int32 → Hp → Option (Int32 × Hp)} {rc1 : Int32 → Hp → Option (Int32 × Hp)} {rc2 : Int32 → Hp → Option (Int32 × Hp)} {rc3 : Int32 → Hp → Option (Int32 × Hp)} (C : jC G X cX3_readTest 4 RX3 (89 + (d + 1)) (2145 + 23 * (d + 1))) (IH0 : ∀ (l : Launch) (v1 : Int32) (h : Hp) (out : (Int32 × Hp)), rc0 v1 h = some out → mt G l yX3_readBoth cX3_readBoth 4 (some .boolean) (89 + d) (2145 + 23 * d) [.ref (G.1 + 47), .int v1] h (some (.int out.1)) out.2) (IH1 : ∀ (l : Launch) (v1 : Int32) (h : Hp) (out : (Int32 × Hp)), rc1 v1 h = some out → mt G l yX3_readBracketed cX3_readBracketed 2 (some .boolean) (89 + d) (2145 + 23 * d) [.ref (G.1 + 47), .int v1] h (some (.int out.1)) out.2) (IH2 : ∀ (l : Launch) (v1 : Int32) (h : Hp) (out : (Int32 × Hp)), rc2 v1 h = some out → mt G l yX3_readPlain cX3_readPlain 4 (some .boolean) (89 + d) (2145 + 23 * d) [.ref (G.1 + 47), .int v1] h (some (.int out.1)) out.2) (IH3 : ∀ (l : Launch) (v1 : Int32) (h : Hp) (out : (Int32 × Hp)), rc3 v1 h = some out → mt G l yX3_readTest cX3_readTest 4 (some .boolean) (89 + d) (2145 + 23 * d) [.ref (G.1 + 47), .int v1] h (some (.int out.1)) out.2) {v1 : Int32} {v2 : Int32} {h : Hp} {out : ((Int32 × Int32 × Hp) ⊕ (Int32 × Hp))} (O : (O_Reader_readTest_12 G X) out) (hm : b_Reader_readTest_12 rc0 rc1 rc2 rc3 v1 v2 h = some out) : J G X 12 [(0, .ref (G.1 + 47)), (1, .int v1), (2, .int v2)] [] h := by
  unfold b_Reader_readTest_12 at hm
  refine j_iload_n C 2 dX3_readTest_12 rfl rfl ?_
  refine j_sipush C 400 dX3_readTest_13 (by decide) ?_
  refine j_if_icmpge C 67 dX3_readTest_16 (by decide) hm (fun hm => ?_) (fun hm => ?_)
  · obtain ⟨o_0, hm_0, rfl⟩ := inr_inv hm
    refine j_sub (L' := []) [] rfl ?_
    exact w_Reader_readTest_67 C IH0 IH1 IH2 IH3 O hm_0
  · refine j_aload_n C 0 dX3_readTest_19 rfl rfl ?_
    refine j_ldcS C (i := 12) rfl dX3_readTest_20 ?_
    refine j_cV C l_X3_71 [.ref (skg G 12)] [] (fun u1 => some (.int u1)) (fun _ => h) (fun u1 => [.int u1]) n_47 hm (fun l u hu => c_Reader_isWord hu) rfl (Nat.le_of_ble_eq_true rfl) rfl (by omega) (by omega) (fun _ => rfl) dX3_readTest_22 (fun u1 hm => ?_)
    refine j_ifeq C 67 dX3_readTest_25 (by decide) hm (fun hm => ?_) (fun hm => ?_)
    · obtain ⟨o_0, hm_0, rfl⟩ := inr_inv hm
      refine j_sub (L' := []) [] rfl ?_
      exact w_Reader_readTest_67 C IH0 IH1 IH2 IH3 O hm_0
    · refine j_aload_n C 0 dX3_readTest_28 rfl rfl ?_
      refine j_gI C f_X3_20 n_47 dX3_readTest_29 ?_
      refine j_istore_n C [(3, .int (hI h 47 3)), (0, .ref (G.1 + 47)), (1, .int v1), (2, .int v2)] dX3_readTest_32 rfl (by decide) rfl ?_
      refine j_aload_n C 1 dX3_readTest_33 rfl rfl ?_
      refine j_bipush C 10 dX3_readTest_34 (by decide) ?_
      refine j_iconst C 0 dX3_readTest_36 (by decide) ?_
      refine j_cV C l_X3_93 [.int ((10 : Int32)), .int ((0 : Int32))] [] (fun _ => none) (fun u2 => u2) (fun u2 => []) n_47 hm (fun l u hu => c_Reader_put hu) rfl (Nat.le_of_ble_eq_true rfl) rfl (by omega) (by omega) (fun _ => rfl) dX3_readTest_37 (fun u2 hm => ?_)
      refine j_aload_n C 1 dX3_readTest_40 rfl rfl ?_
      refine j_cV C l_X3_46 [] [] (fun _ => none) (fun u3 => u3) (fun u3 => []) n_47 hm (fun l u hu => c_Reader_advance hu) rfl (Nat.le_of_ble_eq_true rfl) rfl (by omega) (by omega) (fun _ => rfl) dX3_readTest_41 (fun u3 hm => ?_)
      refine j_aload_n C 1 dX3_readTest_44 rfl rfl ?_
      refine j_iload_n C 2 dX3_readTest_45 rfl rfl ?_
      refine j_cV C l_X3_86 [.int v1] [] (fun u4 => some (.int u4.1)) (fun u4 => u4.2) (fun u4 => [.int u4.1]) n_47 hm (fun l u hu => IH0 _ _ _ _ hu) rfl (Nat.le_of_ble_eq_true rfl) rfl (by omega) (by omega) (fun _ => rfl) dX3_readTest_46 (fun u4 hm => ?_)
      refine j_ifne C 54 dX3_readTest_49 (by decide) hm (fun hm => ?_) (fun hm => ?_)
      · refine j_iconst C 0 dX3_readTest_52 (by decide) ?_
        obtain rfl := Option.some.inj hm
        exact j_zret C O (by decide) dX3_readTest_53
      · refine j_aload_n C 1 dX3_readTest_54 rfl rfl ?_
        refine j_iload_n C 0 dX3_readTest_55 rfl rfl ?_
        refine j_bipush C 10 dX3_readTest_56 (by decide) ?_
        refine j_cV C l_X3_97 [.int (hI h 47 3), .int ((10 : Int32))] [] (fun _ => none) (fun u5 => u5) (fun u5 => []) n_47 hm (fun l u hu => c_Reader_aimHere hu) rfl (Nat.le_of_ble_eq_true rfl) rfl (by omega) (by omega) (fun _ => rfl) dX3_readTest_58 (fun u5 hm => ?_)
        refine j_iinc C 3 [(2, .int (v2 + (1 : Int32))), (3, .int (hI h 47 3)), (0, .ref (G.1 + 47)), (1, .int v1)] dX3_readTest_61 rfl (add_lit (by decide)) (by decide) rfl ?_
        refine j_goto C 12 dX3_readTest_64 (by decide) ?_
        obtain rfl := Option.some.inj hm
        refine j_sub (L' := [(0, .ref (G.1 + 47)), (1, .int v1), (2, .int (v2 + (1 : Int32)))]) [2, 3, 0] rfl ?_
        exact O
theorem k_Reader_readTest_12 {G : jG} {X : jX} {d : Nat} {rc0 : Int32 → Hp → Option (Int32 × Hp)} {rc1 : Int32 → Hp → Option (Int32 × Hp)} {rc2 : Int32 → Hp → Option (Int32 × Hp)} {rc3 : Int32 → Hp → Option (Int32 × Hp)} (C : jC G X cX3_readTest 4 RX3 (89 + (d + 1)) (2145 + 23 * (d + 1))) (IH0 : ∀ (l : Launch) (v1 : Int32) (h : Hp) (out : (Int32 × Hp)), rc0 v1 h = some out → mt G l yX3_readBoth cX3_readBoth 4 (some .boolean) (89 + d) (2145 + 23 * d) [.ref (G.1 + 47), .int v1] h (some (.int out.1)) out.2) (IH1 : ∀ (l : Launch) (v1 : Int32) (h : Hp) (out : (Int32 × Hp)), rc1 v1 h = some out → mt G l yX3_readBracketed cX3_readBracketed 2 (some .boolean) (89 + d) (2145 + 23 * d) [.ref (G.1 + 47), .int v1] h (some (.int out.1)) out.2) (IH2 : ∀ (l : Launch) (v1 : Int32) (h : Hp) (out : (Int32 × Hp)), rc2 v1 h = some out → mt G l yX3_readPlain cX3_readPlain 4 (some .boolean) (89 + d) (2145 + 23 * d) [.ref (G.1 + 47), .int v1] h (some (.int out.1)) out.2) (IH3 : ∀ (l : Launch) (v1 : Int32) (h : Hp) (out : (Int32 × Hp)), rc3 v1 h = some out → mt G l yX3_readTest cX3_readTest 4 (some .boolean) (89 + d) (2145 + 23 * d) [.ref (G.1 + 47), .int v1] h (some (.int out.1)) out.2) {v1 : Int32} {v2 : Int32} {h : Hp} {out : (Int32 × Hp)} (O : (O_Reader_readTest G X) out) (hm : lp (fun q => b_Reader_readTest_12 rc0 rc1 rc2 rc3 q.1 q.2.1 q.2.2) (v1, v2, h) = some out) : J G X 12 [(0, .ref (G.1 + 47)), (1, .int v1), (2, .int v2)] [] h :=
  lp_ok (P := P_Reader_readTest_12 G X) (O := (O_Reader_readTest G X)) (fun q r hm O => w_Reader_readTest_12 C IH0 IH1 IH2 IH3 O hm) hm O
theorem w_Reader_readTest {G : jG} {X : jX} {d : Nat} {rc0 : Int32 → Hp → Option (Int32 × Hp)} {rc1 : Int32 → Hp → Option (Int32 × Hp)} {rc2 : Int32 → Hp → Option (Int32 × Hp)} {rc3 : Int32 → Hp → Option (Int32 × Hp)} (C : jC G X cX3_readTest 4 RX3 (89 + (d + 1)) (2145 + 23 * (d + 1))) (IH0 : ∀ (l : Launch) (v1 : Int32) (h : Hp) (out : (Int32 × Hp)), rc0 v1 h = some out → mt G l yX3_readBoth cX3_readBoth 4 (some .boolean) (89 + d) (2145 + 23 * d) [.ref (G.1 + 47), .int v1] h (some (.int out.1)) out.2) (IH1 : ∀ (l : Launch) (v1 : Int32) (h : Hp) (out : (Int32 × Hp)), rc1 v1 h = some out → mt G l yX3_readBracketed cX3_readBracketed 2 (some .boolean) (89 + d) (2145 + 23 * d) [.ref (G.1 + 47), .int v1] h (some (.int out.1)) out.2) (IH2 : ∀ (l : Launch) (v1 : Int32) (h : Hp) (out : (Int32 × Hp)), rc2 v1 h = some out → mt G l yX3_readPlain cX3_readPlain 4 (some .boolean) (89 + d) (2145 + 23 * d) [.ref (G.1 + 47), .int v1] h (some (.int out.1)) out.2) (IH3 : ∀ (l : Launch) (v1 : Int32) (h : Hp) (out : (Int32 × Hp)), rc3 v1 h = some out → mt G l yX3_readTest cX3_readTest 4 (some .boolean) (89 + d) (2145 + 23 * d) [.ref (G.1 + 47), .int v1] h (some (.int out.1)) out.2) {v1 : Int32} {h : Hp} {out : (Int32 × Hp)} (O : (O_Reader_readTest G X) out) (hm : b_Reader_readTest rc0 rc1 rc2 rc3 v1 h = some out) : J G X 0 [(0, .ref (G.1 + 47)), (1, .int v1)] [] h := by
  unfold b_Reader_readTest at hm
  refine j_aload_n C 0 dX3_readTest_0 rfl rfl ?_
  refine j_iload_n C 1 dX3_readTest_1 rfl rfl ?_
  refine j_cV C l_X3_86 [.int v1] [] (fun u1 => some (.int u1.1)) (fun u1 => u1.2) (fun u1 => [.int u1.1]) n_47 hm (fun l u hu => IH0 _ _ _ _ hu) rfl (Nat.le_of_ble_eq_true rfl) rfl (by omega) (by omega) (fun _ => rfl) dX3_readTest_2 (fun u1 hm => ?_)
  refine j_ifne C 10 dX3_readTest_5 (by decide) hm (fun hm => ?_) (fun hm => ?_)
  · refine j_iconst C 0 dX3_readTest_8 (by decide) ?_
    obtain rfl := Option.some.inj hm
    exact j_zret C O (by decide) dX3_readTest_9
  · refine j_iconst C 0 dX3_readTest_10 (by decide) ?_
    refine j_istore_n C [(2, .int ((0 : Int32))), (0, .ref (G.1 + 47)), (1, .int v1)] dX3_readTest_11 rfl (by decide) rfl ?_
    refine j_sub (L' := [(0, .ref (G.1 + 47)), (1, .int v1), (2, .int ((0 : Int32)))]) [1, 2, 0] rfl ?_
    exact k_Reader_readTest_12 C IH0 IH1 IH2 IH3 O hm
theorem c_r_Reader_readBoth {G : jG} : ∀ d : Nat, (∀ (l : Launch) (v1 : Int32) (h : Hp) (out : (Int32 × Hp)), (r_Reader_readBoth d).1 v1 h = some out → mt G l yX3_readBoth cX3_readBoth 4 (some .boolean) (89 + d) (2145 + 23 * d) [.ref (G.1 + 47), .int v1] h (some (.int out.1)) out.2) ∧ (∀ (l : Launch) (v1 : Int32) (h : Hp) (out : (Int32 × Hp)), (r_Reader_readBoth d).2.1 v1 h = some out → mt G l yX3_readBracketed cX3_readBracketed 2 (some .boolean) (89 + d) (2145 + 23 * d) [.ref (G.1 + 47), .int v1] h (some (.int out.1)) out.2) ∧ (∀ (l : Launch) (v1 : Int32) (h : Hp) (out : (Int32 × Hp)), (r_Reader_readBoth d).2.2.1 v1 h = some out → mt G l yX3_readPlain cX3_readPlain 4 (some .boolean) (89 + d) (2145 + 23 * d) [.ref (G.1 + 47), .int v1] h (some (.int out.1)) out.2) ∧ (∀ (l : Launch) (v1 : Int32) (h : Hp) (out : (Int32 × Hp)), (r_Reader_readBoth d).2.2.2 v1 h = some out → mt G l yX3_readTest cX3_readTest 4 (some .boolean) (89 + d) (2145 + 23 * d) [.ref (G.1 + 47), .int v1] h (some (.int out.1)) out.2)
  | 0 => ⟨fun _ _ _ _ e => (by cases e), fun _ _ _ _ e => (by cases e), fun _ _ _ _ e => (by cases e), fun _ _ _ _ e => (by cases e)⟩
  | d + 1 => by
    obtain ⟨g0, g1, g2, g3⟩ := c_r_Reader_readBoth (G := G) d
    exact ⟨fun l v1 h out hm => mt_of (by decide) (Nat.le_of_ble_eq_true rfl) _ rfl (fun X _ C O => w_Reader_readBoth C g0 g1 g2 g3 O hm), fun l v1 h out hm => mt_of (by decide) (Nat.le_of_ble_eq_true rfl) _ rfl (fun X _ C O => w_Reader_readBracketed C g0 g1 g2 g3 O hm), fun l v1 h out hm => mt_of (by decide) (Nat.le_of_ble_eq_true rfl) _ rfl (fun X _ C O => w_Reader_readPlain C g0 g1 g2 g3 O hm), fun l v1 h out hm => mt_of (by decide) (Nat.le_of_ble_eq_true rfl) _ rfl (fun X _ C O => w_Reader_readTest C g0 g1 g2 g3 O hm)⟩
theorem c_Reader_readBoth {G : jG} {l : Launch} {v1 : Int32} {h : Hp} {out : (Int32 × Hp)} (hm : s_Reader_readBoth v1 h = some out) : mt G l yX3_readBoth cX3_readBoth 4 (some .boolean) 169 3985 [.ref (G.1 + 47), .int v1] h (some (.int out.1)) out.2 := (c_r_Reader_readBoth 80).1 l v1 h out hm
theorem c_Reader_readBracketed {G : jG} {l : Launch} {v1 : Int32} {h : Hp} {out : (Int32 × Hp)} (hm : s_Reader_readBracketed v1 h = some out) : mt G l yX3_readBracketed cX3_readBracketed 2 (some .boolean) 169 3985 [.ref (G.1 + 47), .int v1] h (some (.int out.1)) out.2 := (c_r_Reader_readBoth 80).2.1 l v1 h out hm
theorem c_Reader_readPlain {G : jG} {l : Launch} {v1 : Int32} {h : Hp} {out : (Int32 × Hp)} (hm : s_Reader_readPlain v1 h = some out) : mt G l yX3_readPlain cX3_readPlain 4 (some .boolean) 169 3985 [.ref (G.1 + 47), .int v1] h (some (.int out.1)) out.2 := (c_r_Reader_readBoth 80).2.2.1 l v1 h out hm
theorem c_Reader_readTest {G : jG} {l : Launch} {v1 : Int32} {h : Hp} {out : (Int32 × Hp)} (hm : s_Reader_readTest v1 h = some out) : mt G l yX3_readTest cX3_readTest 4 (some .boolean) 169 3985 [.ref (G.1 + 47), .int v1] h (some (.int out.1)) out.2 := (c_r_Reader_readBoth 80).2.2.2 l v1 h out hm
