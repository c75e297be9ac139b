noncomputable def s_Mod_mark_18 (h : Hp) : Option (Int32 × Hp) :=
  some ((-1 : Int32), h)
noncomputable def s_Mod_mark_63 (v1 : Int32) (v2 : Int32) (v3 : Int32) (v4 : Int32) (h : Hp) : Option ((Int32 × Int32 × Int32 × Int32 × Hp) ⊕ (Int32 × Hp)) :=
  some (.inl (v1, v2, v3, (v4 + (1 : Int32)), h))
noncomputable def s_Mod_mark_27 (v1 : Int32) (v2 : Int32) (v3 : Int32) (v4 : Int32) (h : Hp) : Option ((Int32 × Int32 × Int32 × Int32 × Hp) ⊕ (Int32 × Hp)) :=
  if ((720 : Int32)) ≤ v4 then
    some (.inr (v2, h))
  else
    (s_Mod_rightBy v4 (Int32.toInt64 (v4 + v1)) h).bind fun u1 => if v3 < u1 then
      s_Mod_mark_63 v1 v4 u1 v4 h
    else
      s_Mod_mark_63 v1 v2 v3 v4 h
noncomputable def s_Mod_mark (v1 : Int32) (h : Hp) : Option (Int32 × Hp) :=
  (s_Mod_lies v1 ((0 : Int32)) ((720 : Int32)) h).bind fun u1 => if u1 = 0 then
    s_Mod_mark_18 h
  else
    (s_Mod_highs h).bind fun u2 => if u2.1 = 0 then
      s_Mod_mark_18 u2.2
    else
      lp (fun q => s_Mod_mark_27 q.1 q.2.1 q.2.2.1 q.2.2.2.1 q.2.2.2.2) (v1, ((0 : Int32)), ((-1 : Int32)), ((0 : Int32)), u2.2)
def O_Mod_mark (G : jG) (X : jX) (out : (Int32 × Hp)) : Prop := jO G X (some .int) (some (.int out.1)) out.2
def P_Mod_mark_27 (G : jG) (X : jX) (q : Int32 × Int32 × Int32 × Int32 × Hp) : Prop := J G X 27 [(0, .ref (G.1 + 84)), (1, .int q.1), (2, .int q.2.1), (3, .int q.2.2.1), (4, .int q.2.2.2.1)] [] q.2.2.2.2
def O_Mod_mark_27 (G : jG) (X : jX) (t : ((Int32 × Int32 × Int32 × Int32 × Hp) ⊕ (Int32 × Hp))) : Prop := Sum.elim (P_Mod_mark_27 G X) (O_Mod_mark G X) t
theorem w_Mod_mark_18 {G : jG} {X : jX} (C : jC G X cX12_mark 6 RX12 180 4701) {h : Hp} {out : (Int32 × Hp)} (O : (O_Mod_mark G X) out) (hm : s_Mod_mark_18 h = some out) : J G X 18 [] [] h := by
  unfold s_Mod_mark_18 at hm
  refine j_iconst C (-1 : Int32) dX12_mark_18 (by decide) ?_
  obtain rfl := Option.some.inj hm
  exact j_iret C O dX12_mark_19
theorem w_Mod_mark_63 {G : jG} {X : jX} (C : jC G X cX12_mark 6 RX12 180 4701) {v1 : Int32} {v2 : Int32} {v3 : Int32} {v4 : Int32} {h : Hp} {out : ((Int32 × Int32 × Int32 × Int32 × Hp) ⊕ (Int32 × Hp))} (O : (O_Mod_mark_27 G X) out) (hm : s_Mod_mark_63 v1 v2 v3 v4 h = some out) : J G X 63 [(0, .ref (G.1 + 84)), (1, .int v1), (2, .int v2), (3, .int v3), (4, .int v4)] [] h := by
  unfold s_Mod_mark_63 at hm
  refine j_iinc C 4 [(4, .int (v4 + (1 : Int32))), (0, .ref (G.1 + 84)), (1, .int v1), (2, .int v2), (3, .int v3)] dX12_mark_63 rfl (add_lit (by decide)) (by decide) rfl ?_
  refine j_goto C 27 dX12_mark_66 (by decide) ?_
  obtain rfl := Option.some.inj hm
  refine j_sub (L' := [(0, .ref (G.1 + 84)), (1, .int v1), (2, .int v2), (3, .int v3), (4, .int (v4 + (1 : Int32)))]) [1, 2, 3, 4, 0] rfl ?_
  exact O
theorem w_Mod_mark_27 {G : jG} {X : jX} (C : jC G X cX12_mark 6 RX12 180 4701) {v1 : Int32} {v2 : Int32} {v3 : Int32} {v4 : Int32} {h : Hp} {out : ((Int32 × Int32 × Int32 × Int32 × Hp) ⊕ (Int32 × Hp))} (O : (O_Mod_mark_27 G X) out) (hm : s_Mod_mark_27 v1 v2 v3 v4 h = some out) : J G X 27 [(0, .ref (G.1 + 84)), (1, .int v1), (2, .int v2), (3, .int v3), (4, .int v4)] [] h := by
  unfold s_Mod_mark_27 at hm
  refine j_iload C 4 dX12_mark_27 rfl ?_
  refine j_sipush C 720 dX12_mark_29 (by decide) ?_
  refine j_if_icmpge C 69 dX12_mark_32 (by decide) hm (fun hm => ?_) (fun hm => ?_)
  · refine j_iload_n C 2 dX12_mark_69 rfl rfl ?_
    obtain rfl := Option.some.inj hm
    exact j_iret C O dX12_mark_70
  · refine j_aload_n C 0 dX12_mark_35 rfl rfl ?_
    refine j_iload C 4 dX12_mark_36 rfl ?_
    refine j_iload C 4 dX12_mark_38 rfl ?_
    refine j_iload_n C 1 dX12_mark_40 rfl rfl ?_
    refine j_iadd C dX12_mark_41 ?_
    refine j_i2l C dX12_mark_42 ?_
    refine j_cV C l_X12_426 [.int v4, .long (Int32.toInt64 (v4 + v1))] [] (fun u1 => some (.int u1)) (fun _ => h) (fun u1 => [.int u1]) n_84 hm (fun l u hu => c_Mod_rightBy hu) rfl (Nat.le_of_ble_eq_true rfl) rfl (Nat.le_of_ble_eq_true rfl) (Nat.le_of_ble_eq_true rfl) (fun _ => rfl) dX12_mark_43 (fun u1 hm => ?_)
    refine j_istore C [(5, .int u1), (0, .ref (G.1 + 84)), (1, .int v1), (2, .int v2), (3, .int v3), (4, .int v4)] dX12_mark_46 (by decide) rfl ?_
    refine j_iload C 0 dX12_mark_48 rfl ?_
    refine j_iload_n C 4 dX12_mark_50 rfl rfl ?_
    refine j_if_icmpgt C 57 dX12_mark_51 (by decide) hm (fun hm => ?_) (fun hm => ?_)
    · refine j_iload C 5 dX12_mark_57 rfl ?_
      refine j_istore_n C [(2, .int v4), (5, .int u1), (0, .ref (G.1 + 84)), (1, .int v1), (3, .int v3), (4, .int v4)] dX12_mark_59 rfl (by decide) rfl ?_
      refine j_iload C 1 dX12_mark_60 rfl ?_
      refine j_istore_n C [(3, .int u1), (2, .int v4), (5, .int u1), (0, .ref (G.1 + 84)), (1, .int v1), (4, .int v4)] dX12_mark_62 rfl (by decide) rfl ?_
      refine j_sub (L' := [(0, .ref (G.1 + 84)), (1, .int v1), (2, .int v4), (3, .int u1), (4, .int v4)]) [3, 4, 1, 0, 5] rfl ?_
      exact w_Mod_mark_63 C O hm
    · refine j_goto C 63 dX12_mark_54 (by decide) ?_
      refine j_sub (L' := [(0, .ref (G.1 + 84)), (1, .int v1), (2, .int v2), (3, .int v3), (4, .int v4)]) [1, 2, 3, 4, 5] rfl ?_
      exact w_Mod_mark_63 C O hm
theorem k_Mod_mark_27 {G : jG} {X : jX} (C : jC G X cX12_mark 6 RX12 180 4701) {v1 : Int32} {v2 : Int32} {v3 : Int32} {v4 : Int32} {h : Hp} {out : (Int32 × Hp)} (O : (O_Mod_mark G X) out) (hm : lp (fun q => s_Mod_mark_27 q.1 q.2.1 q.2.2.1 q.2.2.2.1 q.2.2.2.2) (v1, v2, v3, v4, h) = some out) : J G X 27 [(0, .ref (G.1 + 84)), (1, .int v1), (2, .int v2), (3, .int v3), (4, .int v4)] [] h :=
  lp_ok (P := P_Mod_mark_27 G X) (O := (O_Mod_mark G X)) (fun q r hm O => w_Mod_mark_27 C O hm) hm O
theorem w_Mod_mark {G : jG} {X : jX} (C : jC G X cX12_mark 6 RX12 180 4701) {v1 : Int32} {h : Hp} {out : (Int32 × Hp)} (O : (O_Mod_mark G X) out) (hm : s_Mod_mark v1 h = some out) : J G X 0 [(0, .ref (G.1 + 84)), (1, .int v1)] [] h := by
  unfold s_Mod_mark at hm
  refine j_iload_n C 1 dX12_mark_0 rfl rfl ?_
  refine j_iconst C 0 dX12_mark_1 (by decide) ?_
  refine j_sipush C 720 dX12_mark_2 (by decide) ?_
  refine j_cS C l_X12_113 [.int v1, .int ((0 : Int32)), .int ((720 : Int32))] [] (fun u1 => some (.int u1)) (fun _ => h) (fun u1 => [.int u1]) hm (fun l u hu => c_Mod_lies hu) rfl (Nat.le_of_ble_eq_true rfl) rfl (Nat.le_of_ble_eq_true rfl) (Nat.le_of_ble_eq_true rfl) (fun _ => rfl) dX12_mark_5 (fun u1 hm => ?_)
  refine j_ifeq C 18 dX12_mark_8 (by decide) hm (fun hm => ?_) (fun hm => ?_)
  · refine j_sub (L' := []) [] rfl ?_
    exact w_Mod_mark_18 C O hm
  · refine j_aload_n C 0 dX12_mark_11 rfl rfl ?_
    refine j_cV C l_X12_423 [] [] (fun u2 => some (.int u2.1)) (fun u2 => u2.2) (fun u2 => [.int u2.1]) n_84 hm (fun l u hu => c_Mod_highs hu) rfl (Nat.le_of_ble_eq_true rfl) rfl (Nat.le_of_ble_eq_true rfl) (Nat.le_of_ble_eq_true rfl) (fun _ => rfl) dX12_mark_12 (fun u2 hm => ?_)
    refine j_ifne C 20 dX12_mark_15 (by decide) hm (fun hm => ?_) (fun hm => ?_)
    · refine j_sub (L' := []) [] rfl ?_
      exact w_Mod_mark_18 C O hm
    · refine j_iconst C 0 dX12_mark_20 (by decide) ?_
      refine j_istore_n C [(2, .int ((0 : Int32))), (0, .ref (G.1 + 84)), (1, .int v1)] dX12_mark_21 rfl (by decide) rfl ?_
      refine j_iconst C (-1 : Int32) dX12_mark_22 (by decide) ?_
      refine j_istore_n C [(3, .int ((-1 : Int32))), (2, .int ((0 : Int32))), (0, .ref (G.1 + 84)), (1, .int v1)] dX12_mark_23 rfl (by decide) rfl ?_
      refine j_iconst C 0 dX12_mark_24 (by decide) ?_
      refine j_istore C [(4, .int ((0 : Int32))), (3, .int ((-1 : Int32))), (2, .int ((0 : Int32))), (0, .ref (G.1 + 84)), (1, .int v1)] dX12_mark_25 (by decide) rfl ?_
      refine j_sub (L' := [(0, .ref (G.1 + 84)), (1, .int v1), (2, .int ((0 : Int32))), (3, .int ((-1 : Int32))), (4, .int ((0 : Int32)))]) [3, 4, 2, 1, 0] rfl ?_
      exact k_Mod_mark_27 C O hm
theorem c_Mod_mark {G : jG} {l : Launch} {v1 : Int32} {h : Hp} {out : (Int32 × Hp)} (hm : s_Mod_mark v1 h = some out) : mt G l yX12_mark cX12_mark 6 (some .int) 180 4701 [.ref (G.1 + 84), .int v1] h (some (.int out.1)) out.2 :=
  mt_of (by decide) (Nat.le_of_ble_eq_true rfl) _ rfl (fun X I C O => w_Mod_mark C O hm)
noncomputable def s_Mod_moon_81 (v1 : Int32) (v2 : Int32) (v3 : Int32) (v4 : Int32) (h : Hp) : Option (Int32 × Hp) :=
  (s_Mod_replaces (((((6 : Int32)) + (((12 : Int32)) * v1)) + (((3 : Int32)) * v2)) + v3) v4 h).bind fun u1 => some (u1.1, u1.2)
noncomputable def s_Mod_moon_75 (h : Hp) : Option (Int32 × Hp) :=
  (s_Mod_refuses ((-1 : Int32)) h).bind fun u1 => some (u1.1, u1.2)
noncomputable def s_Mod_moon (v1 : Int32) (v2 : Int32) (v3 : Int32) (v4 : Int32) (h : Hp) : Option (Int32 × Hp) :=
  (s_Mod_isEnd v1 h).bind fun u1 => if u1 = 0 then
    s_Mod_moon_75 h
  else
    (s_Mod_isMoon v2 h).bind fun u2 => if u2 = 0 then
      s_Mod_moon_75 h
    else
      (s_Mod_lies v3 ((0 : Int32)) ((2 : Int32)) h).bind fun u3 => if u3 = 0 then
        s_Mod_moon_75 h
      else
        if v3 = 0 then
          (s_Mod_lies v4 ((0 : Int32)) ((500 : Int32)) h).bind fun u6 => if u6 = 0 then
            s_Mod_moon_75 h
          else
            s_Mod_moon_81 v1 v2 v3 v4 h
        else
          if v3 = ((1 : Int32)) then
            (s_Mod_lies v4 ((60 : Int32)) ((2000 : Int32)) h).bind fun u5 => if u5 = 0 then
              s_Mod_moon_75 h
            else
              s_Mod_moon_81 v1 v2 v3 v4 h
          else
            (s_Mod_lies v4 ((0 : Int32)) ((1999 : Int32)) h).bind fun u4 => if u4 = 0 then
              s_Mod_moon_75 h
            else
              s_Mod_moon_81 v1 v2 v3 v4 h
def O_Mod_moon (G : jG) (X : jX) (out : (Int32 × Hp)) : Prop := jO G X (some .int) (some (.int out.1)) out.2
theorem w_Mod_moon_81 {G : jG} {X : jX} (C : jC G X cX12_moon 5 RX12 3 114) {v1 : Int32} {v2 : Int32} {v3 : Int32} {v4 : Int32} {h : Hp} {out : (Int32 × Hp)} (O : (O_Mod_moon G X) out) (hm : s_Mod_moon_81 v1 v2 v3 v4 h = some out) : J G X 81 [(0, .ref (G.1 + 84)), (1, .int v1), (2, .int v2), (3, .int v3), (4, .int v4)] [] h := by
  unfold s_Mod_moon_81 at hm
  refine j_aload_n C 0 dX12_moon_81 rfl rfl ?_
  refine j_bipush C 6 dX12_moon_82 (by decide) ?_
  refine j_bipush C 12 dX12_moon_84 (by decide) ?_
  refine j_iload_n C 1 dX12_moon_86 rfl rfl ?_
  refine j_imul C dX12_moon_87 ?_
  refine j_iadd C dX12_moon_88 ?_
  refine j_iconst C 3 dX12_moon_89 (by decide) ?_
  refine j_iload_n C 2 dX12_moon_90 rfl rfl ?_
  refine j_imul C dX12_moon_91 ?_
  refine j_iadd C dX12_moon_92 ?_
  refine j_iload_n C 3 dX12_moon_93 rfl rfl ?_
  refine j_iadd C dX12_moon_94 ?_
  refine j_iload C 4 dX12_moon_95 rfl ?_
  refine j_cV C l_X12_128 [.int (((((6 : Int32)) + (((12 : Int32)) * v1)) + (((3 : Int32)) * v2)) + v3), .int v4] [] (fun u1 => some (.int u1.1)) (fun u1 => u1.2) (fun u1 => [.int u1.1]) n_84 hm (fun l u hu => c_Mod_replaces hu) rfl (Nat.le_of_ble_eq_true rfl) rfl (Nat.le_of_ble_eq_true rfl) (Nat.le_of_ble_eq_true rfl) (fun _ => rfl) dX12_moon_97 (fun u1 hm => ?_)
  obtain rfl := Option.some.inj hm
  exact j_iret C O dX12_moon_100
theorem w_Mod_moon_75 {G : jG} {X : jX} (C : jC G X cX12_moon 5 RX12 3 114) {h : Hp} {out : (Int32 × Hp)} (O : (O_Mod_moon G X) out) (hm : s_Mod_moon_75 h = some out) : J G X 75 [(0, .ref (G.1 + 84))] [] h := by
  unfold s_Mod_moon_75 at hm
  refine j_aload_n C 0 dX12_moon_75 rfl rfl ?_
  refine j_iconst C (-1 : Int32) dX12_moon_76 (by decide) ?_
  refine j_cV C l_X12_117 [.int ((-1 : Int32))] [] (fun u1 => some (.int u1.1)) (fun u1 => u1.2) (fun u1 => [.int u1.1]) n_84 hm (fun l u hu => c_Mod_refuses hu) rfl (Nat.le_of_ble_eq_true rfl) rfl (Nat.le_of_ble_eq_true rfl) (Nat.le_of_ble_eq_true rfl) (fun _ => rfl) dX12_moon_77 (fun u1 hm => ?_)
  obtain rfl := Option.some.inj hm
  exact j_iret C O dX12_moon_80
theorem w_Mod_moon {G : jG} {X : jX} (C : jC G X cX12_moon 5 RX12 3 114) {v1 : Int32} {v2 : Int32} {v3 : Int32} {v4 : Int32} {h : Hp} {out : (Int32 × Hp)} (O : (O_Mod_moon G X) out) (hm : s_Mod_moon v1 v2 v3 v4 h = some out) : J G X 0 [(0, .ref (G.1 + 84)), (1, .int v1), (2, .int v2), (3, .int v3), (4, .int v4)] [] h := by
  unfold s_Mod_moon at hm
  refine j_iload_n C 1 dX12_moon_0 rfl rfl ?_
  refine j_cS C l_X12_124 [.int v1] [] (fun u1 => some (.int u1)) (fun _ => h) (fun u1 => [.int u1]) hm (fun l u hu => c_Mod_isEnd hu) rfl (Nat.le_of_ble_eq_true rfl) rfl (Nat.le_of_ble_eq_true rfl) (Nat.le_of_ble_eq_true rfl) (fun _ => rfl) dX12_moon_1 (fun u1 hm => ?_)
  refine j_ifeq C 75 dX12_moon_4 (by decide) hm (fun hm => ?_) (fun hm => ?_)
  · refine j_sub (L' := [(0, .ref (G.1 + 84))]) [0] rfl ?_
    exact w_Mod_moon_75 C O hm
  · refine j_iload_n C 2 dX12_moon_7 rfl rfl ?_
    refine j_cS C l_X12_132 [.int v2] [] (fun u2 => some (.int u2)) (fun _ => h) (fun u2 => [.int u2]) hm (fun l u hu => c_Mod_isMoon hu) rfl (Nat.le_of_ble_eq_true rfl) rfl (Nat.le_of_ble_eq_true rfl) (Nat.le_of_ble_eq_true rfl) (fun _ => rfl) dX12_moon_8 (fun u2 hm => ?_)
    refine j_ifeq C 75 dX12_moon_11 (by decide) hm (fun hm => ?_) (fun hm => ?_)
    · refine j_sub (L' := [(0, .ref (G.1 + 84))]) [0] rfl ?_
      exact w_Mod_moon_75 C O hm
    · refine j_iload_n C 3 dX12_moon_14 rfl rfl ?_
      refine j_iconst C 0 dX12_moon_15 (by decide) ?_
      refine j_iconst C 2 dX12_moon_16 (by decide) ?_
      refine j_cS C l_X12_113 [.int v3, .int ((0 : Int32)), .int ((2 : Int32))] [] (fun u3 => some (.int u3)) (fun _ => h) (fun u3 => [.int u3]) hm (fun l u hu => c_Mod_lies hu) rfl (Nat.le_of_ble_eq_true rfl) rfl (Nat.le_of_ble_eq_true rfl) (Nat.le_of_ble_eq_true rfl) (fun _ => rfl) dX12_moon_17 (fun u3 hm => ?_)
      refine j_ifeq C 75 dX12_moon_20 (by decide) hm (fun hm => ?_) (fun hm => ?_)
      · refine j_sub (L' := [(0, .ref (G.1 + 84))]) [0] rfl ?_
        exact w_Mod_moon_75 C O hm
      · refine j_iload_n C 3 dX12_moon_23 rfl rfl ?_
        refine j_ifne C 42 dX12_moon_24 (by decide) hm (fun hm => ?_) (fun hm => ?_)
        · refine j_iload C 4 dX12_moon_27 rfl ?_
          refine j_iconst C 0 dX12_moon_29 (by decide) ?_
          refine j_sipush C 500 dX12_moon_30 (by decide) ?_
          refine j_cS C l_X12_113 [.int v4, .int ((0 : Int32)), .int ((500 : Int32))] [] (fun u6 => some (.int u6)) (fun _ => h) (fun u6 => [.int u6]) hm (fun l u hu => c_Mod_lies hu) rfl (Nat.le_of_ble_eq_true rfl) rfl (Nat.le_of_ble_eq_true rfl) (Nat.le_of_ble_eq_true rfl) (fun _ => rfl) dX12_moon_33 (fun u6 hm => ?_)
          refine j_ifeq C 75 dX12_moon_36 (by decide) hm (fun hm => ?_) (fun hm => ?_)
          · refine j_sub (L' := [(0, .ref (G.1 + 84))]) [0] rfl ?_
            exact w_Mod_moon_75 C O hm
          · refine j_goto C 81 dX12_moon_39 (by decide) ?_
            refine j_sub (L' := [(0, .ref (G.1 + 84)), (1, .int v1), (2, .int v2), (3, .int v3), (4, .int v4)]) [0, 1, 2, 3, 4] rfl ?_
            exact w_Mod_moon_81 C O hm
        · refine j_iload_n C 3 dX12_moon_42 rfl rfl ?_
          refine j_iconst C 1 dX12_moon_43 (by decide) ?_
          refine j_if_icmpne C 63 dX12_moon_44 (by decide) hm (fun hm => ?_) (fun hm => ?_)
          · refine j_iload C 4 dX12_moon_47 rfl ?_
            refine j_bipush C 60 dX12_moon_49 (by decide) ?_
            refine j_sipush C 2000 dX12_moon_51 (by decide) ?_
            refine j_cS C l_X12_113 [.int v4, .int ((60 : Int32)), .int ((2000 : Int32))] [] (fun u5 => some (.int u5)) (fun _ => h) (fun u5 => [.int u5]) hm (fun l u hu => c_Mod_lies hu) rfl (Nat.le_of_ble_eq_true rfl) rfl (Nat.le_of_ble_eq_true rfl) (Nat.le_of_ble_eq_true rfl) (fun _ => rfl) dX12_moon_54 (fun u5 hm => ?_)
            refine j_ifeq C 75 dX12_moon_57 (by decide) hm (fun hm => ?_) (fun hm => ?_)
            · refine j_sub (L' := [(0, .ref (G.1 + 84))]) [0] rfl ?_
              exact w_Mod_moon_75 C O hm
            · refine j_goto C 81 dX12_moon_60 (by decide) ?_
              refine j_sub (L' := [(0, .ref (G.1 + 84)), (1, .int v1), (2, .int v2), (3, .int v3), (4, .int v4)]) [0, 1, 2, 3, 4] rfl ?_
              exact w_Mod_moon_81 C O hm
          · refine j_iload C 4 dX12_moon_63 rfl ?_
            refine j_iconst C 0 dX12_moon_65 (by decide) ?_
            refine j_sipush C 1999 dX12_moon_66 (by decide) ?_
            refine j_cS C l_X12_113 [.int v4, .int ((0 : Int32)), .int ((1999 : Int32))] [] (fun u4 => some (.int u4)) (fun _ => h) (fun u4 => [.int u4]) hm (fun l u hu => c_Mod_lies hu) rfl (Nat.le_of_ble_eq_true rfl) rfl (Nat.le_of_ble_eq_true rfl) (Nat.le_of_ble_eq_true rfl) (fun _ => rfl) dX12_moon_69 (fun u4 hm => ?_)
            refine j_ifne C 81 dX12_moon_72 (by decide) hm (fun hm => ?_) (fun hm => ?_)
            · refine j_sub (L' := [(0, .ref (G.1 + 84))]) [0] rfl ?_
              exact w_Mod_moon_75 C O hm
            · refine j_sub (L' := [(0, .ref (G.1 + 84)), (1, .int v1), (2, .int v2), (3, .int v3), (4, .int v4)]) [0, 1, 2, 3, 4] rfl ?_
              exact w_Mod_moon_81 C O hm
theorem c_Mod_moon {G : jG} {l : Launch} {v1 : Int32} {v2 : Int32} {v3 : Int32} {v4 : Int32} {h : Hp} {out : (Int32 × Hp)} (hm : s_Mod_moon v1 v2 v3 v4 h = some out) : mt G l yX12_moon cX12_moon 5 (some .int) 3 114 [.ref (G.1 + 84), .int v1, .int v2, .int v3, .int v4] h (some (.int out.1)) out.2 :=
  mt_of (by decide) (Nat.le_of_ble_eq_true rfl) _ rfl (fun X I C O => w_Mod_moon C O hm)
noncomputable def s_Mod_takenBy_30 (v1 : Int32) (v2 : Int64) (v4 : Int32) (h : Hp) : Option ((Int32 × Int64 × Int32 × Hp) ⊕ (Int64 × Hp)) :=
  if ((1440 : Int32)) ≤ v4 then
    some (.inr (v2, h))
  else
    ib v4 1440 <| (s_Mod_size (hI h 98 (ix v4)) h).bind fun u1 => lt (v2 + (((((Int32.toInt64 v1) * (Int32.toInt64 u1)) * (Int32.toInt64 u1)) * (Int32.toInt64 u1)) / ((1000000 : Int64)))) fun x2 => some (.inl (v1, x2, (v4 + (1 : Int32)), h))
noncomputable def s_Mod_takenBy (v1 : Int32) (h : Hp) : Option (Int64 × Hp) :=
  (s_Mod_term ((9 : Int32)) h).bind fun u1 => (s_Mod_winds u1 h).bind fun u2 => (s_Mod_term ((10 : Int32)) u2).bind fun u3 => (s_Mod_flows 98 u3 v1 u2).bind fun u4 => lp (fun q => s_Mod_takenBy_30 q.1 q.2.1 q.2.2.1 q.2.2.2) (v1, ((0 : Int64)), ((0 : Int32)), u4)
def O_Mod_takenBy (G : jG) (X : jX) (out : (Int64 × Hp)) : Prop := jO G X (some .long) (some (.long out.1)) out.2
def P_Mod_takenBy_30 (G : jG) (X : jX) (q : Int32 × Int64 × Int32 × Hp) : Prop := J G X 30 [(0, .ref (G.1 + 84)), (1, .int q.1), (2, .long q.2.1), (4, .int q.2.2.1)] [] q.2.2.2
def O_Mod_takenBy_30 (G : jG) (X : jX) (t : ((Int32 × Int64 × Int32 × Hp) ⊕ (Int64 × Hp))) : Prop := Sum.elim (P_Mod_takenBy_30 G X) (O_Mod_takenBy G X) t
theorem w_Mod_takenBy_30 {G : jG} {X : jX} (C : jC G X cX12_takenBy 7 RX12 178 4659) {v1 : Int32} {v2 : Int64} {v4 : Int32} {h : Hp} {out : ((Int32 × Int64 × Int32 × Hp) ⊕ (Int64 × Hp))} (O : (O_Mod_takenBy_30 G X) out) (hm : s_Mod_takenBy_30 v1 v2 v4 h = some out) : J G X 30 [(0, .ref (G.1 + 84)), (1, .int v1), (2, .long v2), (4, .int v4)] [] h := by
  unfold s_Mod_takenBy_30 at hm
  refine j_iload C 3 dX12_takenBy_30 rfl ?_
  refine j_sipush C 1440 dX12_takenBy_32 (by decide) ?_
  refine j_if_icmpge C 75 dX12_takenBy_35 (by decide) hm (fun hm => ?_) (fun hm => ?_)
  · refine j_lload_n C 2 dX12_takenBy_75 rfl rfl ?_
    obtain rfl := Option.some.inj hm
    exact j_lret C O dX12_takenBy_76
  · refine j_aload_n C 0 dX12_takenBy_38 rfl rfl ?_
    refine j_gS C f_X12_61 n_84 q_84_27 dX12_takenBy_39 ?_
    refine j_iload C 3 dX12_takenBy_42 rfl ?_
    refine j_iald C n_98 hm dX12_takenBy_44 (fun hm => ?_)
    refine j_cS C l_X12_304 [.int (hI h 98 (ix v4))] [] (fun u1 => some (.int u1)) (fun _ => h) (fun u1 => [.int u1]) hm (fun l u hu => c_Mod_size hu) rfl (Nat.le_of_ble_eq_true rfl) rfl (Nat.le_of_ble_eq_true rfl) (Nat.le_of_ble_eq_true rfl) (fun _ => rfl) dX12_takenBy_45 (fun u1 hm => ?_)
    refine j_i2l C dX12_takenBy_48 ?_
    refine j_lstore C [(5, .long (Int32.toInt64 u1)), (0, .ref (G.1 + 84)), (1, .int v1), (2, .long v2), (4, .int v4)] dX12_takenBy_49 (by decide) rfl ?_
    refine j_lload_n C 3 dX12_takenBy_51 rfl rfl ?_
    refine j_iload_n C 2 dX12_takenBy_52 rfl rfl ?_
    refine j_i2l C dX12_takenBy_53 ?_
    refine j_lload C 0 dX12_takenBy_54 rfl ?_
    refine j_lmul C dX12_takenBy_56 ?_
    refine j_lload C 0 dX12_takenBy_57 rfl ?_
    refine j_lmul C dX12_takenBy_59 ?_
    refine j_lload C 0 dX12_takenBy_60 rfl ?_
    refine j_lmul C dX12_takenBy_62 ?_
    refine j_ldc2 C wd_1877 dX12_takenBy_63 ?_
    refine j_ldiv C dX12_takenBy_66 (by decide) ?_
    refine j_ladd C dX12_takenBy_67 ?_
    refine j_nmL hm (fun x2 hm => ?_)
    refine j_lstore_n C [(2, .long x2), (5, .long (Int32.toInt64 u1)), (0, .ref (G.1 + 84)), (1, .int v1), (4, .int v4)] dX12_takenBy_68 rfl (by decide) rfl ?_
    refine j_iinc C 4 [(4, .int (v4 + (1 : Int32))), (2, .long x2), (5, .long (Int32.toInt64 u1)), (0, .ref (G.1 + 84)), (1, .int v1)] dX12_takenBy_69 rfl (add_lit (by decide)) (by decide) rfl ?_
    refine j_goto C 30 dX12_takenBy_72 (by decide) ?_
    obtain rfl := Option.some.inj hm
    refine j_sub (L' := [(0, .ref (G.1 + 84)), (1, .int v1), (2, .long x2), (4, .int (v4 + (1 : Int32)))]) [3, 4, 1, 0] rfl ?_
    exact O
theorem k_Mod_takenBy_30 {G : jG} {X : jX} (C : jC G X cX12_takenBy 7 RX12 178 4659) {v1 : Int32} {v2 : Int64} {v4 : Int32} {h : Hp} {out : (Int64 × Hp)} (O : (O_Mod_takenBy G X) out) (hm : lp (fun q => s_Mod_takenBy_30 q.1 q.2.1 q.2.2.1 q.2.2.2) (v1, v2, v4, h) = some out) : J G X 30 [(0, .ref (G.1 + 84)), (1, .int v1), (2, .long v2), (4, .int v4)] [] h :=
  lp_ok (P := P_Mod_takenBy_30 G X) (O := (O_Mod_takenBy G X)) (fun q r hm O => w_Mod_takenBy_30 C O hm) hm O
theorem w_Mod_takenBy {G : jG} {X : jX} (C : jC G X cX12_takenBy 7 RX12 178 4659) {v1 : Int32} {h : Hp} {out : (Int64 × Hp)} (O : (O_Mod_takenBy G X) out) (hm : s_Mod_takenBy v1 h = some out) : J G X 0 [(0, .ref (G.1 + 84)), (1, .int v1)] [] h := by
  unfold s_Mod_takenBy at hm
  refine j_aload_n C 0 dX12_takenBy_0 rfl rfl ?_
  refine j_aload_n C 0 dX12_takenBy_1 rfl rfl ?_
  refine j_bipush C 9 dX12_takenBy_2 (by decide) ?_
  refine j_cV C l_X12_283 [.int ((9 : Int32))] [.ref (G.1 + 84)] (fun u1 => some (.int u1)) (fun _ => h) (fun u1 => [.int u1, .ref (G.1 + 84)]) n_84 hm (fun l u hu => c_Mod_term hu) rfl (Nat.le_of_ble_eq_true rfl) rfl (Nat.le_of_ble_eq_true rfl) (Nat.le_of_ble_eq_true rfl) (fun _ => rfl) dX12_takenBy_4 (fun u1 hm => ?_)
  refine j_cV C l_X12_312 [.int u1] [] (fun _ => none) (fun u2 => u2) (fun u2 => []) n_84 hm (fun l u hu => c_Mod_winds hu) rfl (Nat.le_of_ble_eq_true rfl) rfl (Nat.le_of_ble_eq_true rfl) (Nat.le_of_ble_eq_true rfl) (fun _ => rfl) dX12_takenBy_7 (fun u2 hm => ?_)
  refine j_aload_n C 0 dX12_takenBy_10 rfl rfl ?_
  refine j_aload_n C 0 dX12_takenBy_11 rfl rfl ?_
  refine j_gS C f_X12_61 n_84 q_84_27 dX12_takenBy_12 ?_
  refine j_aload_n C 0 dX12_takenBy_15 rfl rfl ?_
  refine j_bipush C 10 dX12_takenBy_16 (by decide) ?_
  refine j_cV C l_X12_283 [.int ((10 : Int32))] [.ref (G.1 + 98), .ref (G.1 + 84)] (fun u3 => some (.int u3)) (fun _ => u2) (fun u3 => [.int u3, .ref (G.1 + 98), .ref (G.1 + 84)]) n_84 hm (fun l u hu => c_Mod_term hu) rfl (Nat.le_of_ble_eq_true rfl) rfl (Nat.le_of_ble_eq_true rfl) (Nat.le_of_ble_eq_true rfl) (fun _ => rfl) dX12_takenBy_18 (fun u3 hm => ?_)
  refine j_iload_n C 1 dX12_takenBy_21 rfl rfl ?_
  refine j_cV C l_X12_314 [.ref (G.1 + 98), .int u3, .int v1] [] (fun _ => none) (fun u4 => u4) (fun u4 => []) n_84 hm (fun l u hu => c_Mod_flows hu) rfl (Nat.le_of_ble_eq_true rfl) rfl (Nat.le_of_ble_eq_true rfl) (Nat.le_of_ble_eq_true rfl) (fun _ => rfl) dX12_takenBy_22 (fun u4 hm => ?_)
  refine j_lconst C 0 dX12_takenBy_25 (by decide) ?_
  refine j_lstore_n C [(2, .long ((0 : Int64))), (0, .ref (G.1 + 84)), (1, .int v1)] dX12_takenBy_26 rfl (by decide) rfl ?_
  refine j_iconst C 0 dX12_takenBy_27 (by decide) ?_
  refine j_istore C [(4, .int ((0 : Int32))), (2, .long ((0 : Int64))), (0, .ref (G.1 + 84)), (1, .int v1)] dX12_takenBy_28 (by decide) rfl ?_
  refine j_sub (L' := [(0, .ref (G.1 + 84)), (1, .int v1), (2, .long ((0 : Int64))), (4, .int ((0 : Int32)))]) [2, 3, 1, 0] rfl ?_
  exact k_Mod_takenBy_30 C O hm
theorem c_Mod_takenBy {G : jG} {l : Launch} {v1 : Int32} {h : Hp} {out : (Int64 × Hp)} (hm : s_Mod_takenBy v1 h = some out) : mt G l yX12_takenBy cX12_takenBy 7 (some .long) 178 4659 [.ref (G.1 + 84), .int v1] h (some (.long out.1)) out.2 :=
  mt_of (by decide) (Nat.le_of_ble_eq_true rfl) _ rfl (fun X I C O => w_Mod_takenBy C O hm)
noncomputable def s_Mod_most_21 (h : Hp) : Option (Int32 × Hp) :=
  some ((-100000 : Int32), h)
noncomputable def s_Mod_most_66 (v1 : Int32) (v2 : Int32) (v3 : Int32) (v4 : Int64) (v6 : Int32) (h : Hp) : Option ((Int32 × Int32 × Int32 × Int64 × Int32 × Hp) ⊕ (Int32 × Hp)) :=
  some (.inl (v1, v2, v3, v4, (v6 + (1 : Int32)), h))
noncomputable def s_Mod_most_33 (v1 : Int32) (v2 : Int32) (v3 : Int32) (v4 : Int64) (v6 : Int32) (h : Hp) : Option ((Int32 × Int32 × Int32 × Int64 × Int32 × Hp) ⊕ (Int32 × Hp)) :=
  if ((20 : Int32)) < v6 then
    if v1 = 0 then
      some (.inr (v3, h))
    else
      (s_Mod_takenBy v3 h).bind fun u1 => ib v2 1440 <| some (.inr (hI u1.2 98 (ix v2), u1.2))
  else
    (s_Mod_takenBy v6 h).bind fun u2 => if 0 < (lg_cmp u2.1 v4) then
      s_Mod_most_66 v1 v2 v6 u2.1 v6 u2.2
    else
      s_Mod_most_66 v1 v2 v3 v4 v6 u2.2
noncomputable def s_Mod_most_25 (v1 : Int32) (v2 : Int32) (h : Hp) : Option (Int32 × Hp) :=
  lp (fun q => s_Mod_most_33 q.1 q.2.1 q.2.2.1 q.2.2.2.1 q.2.2.2.2.1 q.2.2.2.2.2) (v1, v2, ((0 : Int32)), ((0 : Int64)), ((1 : Int32)), h)
noncomputable def s_Mod_most (v1 : Int32) (v2 : Int32) (h : Hp) : Option (Int32 × Hp) :=
  (s_Mod_lies v1 ((0 : Int32)) ((1 : Int32)) h).bind fun u1 => if u1 = 0 then
    s_Mod_most_21 h
  else
    if v1 = ((1 : Int32)) then
      (s_Mod_isMinute v2 h).bind fun u2 => if u2 = 0 then
        s_Mod_most_21 h
      else
        s_Mod_most_25 v1 v2 h
    else
      s_Mod_most_25 v1 v2 h
def O_Mod_most (G : jG) (X : jX) (out : (Int32 × Hp)) : Prop := jO G X (some .int) (some (.int out.1)) out.2
def P_Mod_most_33 (G : jG) (X : jX) (q : Int32 × Int32 × Int32 × Int64 × Int32 × Hp) : Prop := J G X 33 [(0, .ref (G.1 + 84)), (1, .int q.1), (2, .int q.2.1), (3, .int q.2.2.1), (4, .long q.2.2.2.1), (6, .int q.2.2.2.2.1)] [] q.2.2.2.2.2
def O_Mod_most_33 (G : jG) (X : jX) (t : ((Int32 × Int32 × Int32 × Int64 × Int32 × Hp) ⊕ (Int32 × Hp))) : Prop := Sum.elim (P_Mod_most_33 G X) (O_Mod_most G X) t
theorem w_Mod_most_21 {G : jG} {X : jX} (C : jC G X cX12_most 9 RX12 179 4685) {h : Hp} {out : (Int32 × Hp)} (O : (O_Mod_most G X) out) (hm : s_Mod_most_21 h = some out) : J G X 21 [] [] h := by
  unfold s_Mod_most_21 at hm
  refine j_ldc_w C wd_1649 dX12_most_21 ?_
  obtain rfl := Option.some.inj hm
  exact j_iret C O dX12_most_24
theorem w_Mod_most_66 {G : jG} {X : jX} (C : jC G X cX12_most 9 RX12 179 4685) {v1 : Int32} {v2 : Int32} {v3 : Int32} {v4 : Int64} {v6 : Int32} {h : Hp} {out : ((Int32 × Int32 × Int32 × Int64 × Int32 × Hp) ⊕ (Int32 × Hp))} (O : (O_Mod_most_33 G X) out) (hm : s_Mod_most_66 v1 v2 v3 v4 v6 h = some out) : J G X 66 [(0, .ref (G.1 + 84)), (1, .int v1), (2, .int v2), (3, .int v3), (4, .long v4), (6, .int v6)] [] h := by
  unfold s_Mod_most_66 at hm
  refine j_iinc C 5 [(6, .int (v6 + (1 : Int32))), (0, .ref (G.1 + 84)), (1, .int v1), (2, .int v2), (3, .int v3), (4, .long v4)] dX12_most_66 rfl (add_lit (by decide)) (by decide) rfl ?_
  refine j_goto C 33 dX12_most_69 (by decide) ?_
  obtain rfl := Option.some.inj hm
  refine j_sub (L' := [(0, .ref (G.1 + 84)), (1, .int v1), (2, .int v2), (3, .int v3), (4, .long v4), (6, .int (v6 + (1 : Int32)))]) [1, 2, 3, 4, 5, 0] rfl ?_
  exact O
theorem w_Mod_most_33 {G : jG} {X : jX} (C : jC G X cX12_most 9 RX12 179 4685) {v1 : Int32} {v2 : Int32} {v3 : Int32} {v4 : Int64} {v6 : Int32} {h : Hp} {out : ((Int32 × Int32 × Int32 × Int64 × Int32 × Hp) ⊕ (Int32 × Hp))} (O : (O_Mod_most_33 G X) out) (hm : s_Mod_most_33 v1 v2 v3 v4 v6 h = some out) : J G X 33 [(0, .ref (G.1 + 84)), (1, .int v1), (2, .int v2), (3, .int v3), (4, .long v4), (6, .int v6)] [] h := by
  unfold s_Mod_most_33 at hm
  refine j_iload C 5 dX12_most_33 rfl ?_
  refine j_bipush C 20 dX12_most_35 (by decide) ?_
  refine j_if_icmpgt C 72 dX12_most_37 (by decide) hm (fun hm => ?_) (fun hm => ?_)
  · refine j_iload_n C 1 dX12_most_72 rfl rfl ?_
    refine j_ifne C 78 dX12_most_73 (by decide) hm (fun hm => ?_) (fun hm => ?_)
    · refine j_iload_n C 3 dX12_most_76 rfl rfl ?_
      obtain rfl := Option.some.inj hm
      exact j_iret C O dX12_most_77
    · refine j_aload_n C 0 dX12_most_78 rfl rfl ?_
      refine j_iload_n C 3 dX12_most_79 rfl rfl ?_
      refine j_cV C l_X12_392 [.int v3] [] (fun u1 => some (.long u1.1)) (fun u1 => u1.2) (fun u1 => [.long u1.1]) n_84 hm (fun l u hu => c_Mod_takenBy hu) rfl (Nat.le_of_ble_eq_true rfl) rfl (Nat.le_of_ble_eq_true rfl) (Nat.le_of_ble_eq_true rfl) (fun _ => rfl) dX12_most_80 (fun u1 hm => ?_)
      refine j_pop2 C dX12_most_83 rfl ?_
      refine j_aload_n C 0 dX12_most_84 rfl rfl ?_
      refine j_gS C f_X12_61 n_84 q_84_27 dX12_most_85 ?_
      refine j_iload_n C 2 dX12_most_88 rfl rfl ?_
      refine j_iald C n_98 hm dX12_most_89 (fun hm => ?_)
      obtain rfl := Option.some.inj hm
      exact j_iret C O dX12_most_90
  · refine j_aload_n C 0 dX12_most_40 rfl rfl ?_
    refine j_iload C 5 dX12_most_41 rfl ?_
    refine j_cV C l_X12_392 [.int v6] [] (fun u2 => some (.long u2.1)) (fun u2 => u2.2) (fun u2 => [.long u2.1]) n_84 hm (fun l u hu => c_Mod_takenBy hu) rfl (Nat.le_of_ble_eq_true rfl) rfl (Nat.le_of_ble_eq_true rfl) (Nat.le_of_ble_eq_true rfl) (fun _ => rfl) dX12_most_43 (fun u2 hm => ?_)
    refine j_lstore C [(7, .long u2.1), (0, .ref (G.1 + 84)), (1, .int v1), (2, .int v2), (3, .int v3), (4, .long v4), (6, .int v6)] dX12_most_46 (by decide) rfl ?_
    refine j_lload C 0 dX12_most_48 rfl ?_
    refine j_lload C 5 dX12_most_50 rfl ?_
    refine j_lcmp C dX12_most_52 ?_
    refine j_ifgt C 59 dX12_most_53 (by decide) hm (fun hm => ?_) (fun hm => ?_)
    · refine j_iload C 6 dX12_most_59 rfl ?_
      refine j_istore_n C [(3, .int v6), (7, .long u2.1), (0, .ref (G.1 + 84)), (1, .int v1), (2, .int v2), (4, .long v4), (6, .int v6)] dX12_most_61 rfl (by decide) rfl ?_
      refine j_lload C 1 dX12_most_62 rfl ?_
      refine j_lstore C [(4, .long u2.1), (3, .int v6), (7, .long u2.1), (0, .ref (G.1 + 84)), (1, .int v1), (2, .int v2), (6, .int v6)] dX12_most_64 (by decide) rfl ?_
      refine j_sub (L' := [(0, .ref (G.1 + 84)), (1, .int v1), (2, .int v2), (3, .int v6), (4, .long u2.1), (6, .int v6)]) [3, 4, 5, 1, 0, 6] rfl ?_
      exact w_Mod_most_66 C O hm
    · refine j_goto C 66 dX12_most_56 (by decide) ?_
      refine j_sub (L' := [(0, .ref (G.1 + 84)), (1, .int v1), (2, .int v2), (3, .int v3), (4, .long v4), (6, .int v6)]) [1, 2, 3, 4, 5, 6] rfl ?_
      exact w_Mod_most_66 C O hm
theorem k_Mod_most_33 {G : jG} {X : jX} (C : jC G X cX12_most 9 RX12 179 4685) {v1 : Int32} {v2 : Int32} {v3 : Int32} {v4 : Int64} {v6 : Int32} {h : Hp} {out : (Int32 × Hp)} (O : (O_Mod_most G X) out) (hm : lp (fun q => s_Mod_most_33 q.1 q.2.1 q.2.2.1 q.2.2.2.1 q.2.2.2.2.1 q.2.2.2.2.2) (v1, v2, v3, v4, v6, h) = some out) : J G X 33 [(0, .ref (G.1 + 84)), (1, .int v1), (2, .int v2), (3, .int v3), (4, .long v4), (6, .int v6)] [] h :=
  lp_ok (P := P_Mod_most_33 G X) (O := (O_Mod_most G X)) (fun q r hm O => w_Mod_most_33 C O hm) hm O
theorem w_Mod_most_25 {G : jG} {X : jX} (C : jC G X cX12_most 9 RX12 179 4685) {v1 : Int32} {v2 : Int32} {h : Hp} {out : (Int32 × Hp)} (O : (O_Mod_most G X) out) (hm : s_Mod_most_25 v1 v2 h = some out) : J G X 25 [(0, .ref (G.1 + 84)), (1, .int v1), (2, .int v2)] [] h := by
  unfold s_Mod_most_25 at hm
  refine j_iconst C 0 dX12_most_25 (by decide) ?_
  refine j_istore_n C [(3, .int ((0 : Int32))), (0, .ref (G.1 + 84)), (1, .int v1), (2, .int v2)] dX12_most_26 rfl (by decide) rfl ?_
  refine j_lconst C 0 dX12_most_27 (by decide) ?_
  refine j_lstore C [(4, .long ((0 : Int64))), (3, .int ((0 : Int32))), (0, .ref (G.1 + 84)), (1, .int v1), (2, .int v2)] dX12_most_28 (by decide) rfl ?_
  refine j_iconst C 1 dX12_most_30 (by decide) ?_
  refine j_istore C [(6, .int ((1 : Int32))), (4, .long ((0 : Int64))), (3, .int ((0 : Int32))), (0, .ref (G.1 + 84)), (1, .int v1), (2, .int v2)] dX12_most_31 (by decide) rfl ?_
  refine j_sub (L' := [(0, .ref (G.1 + 84)), (1, .int v1), (2, .int v2), (3, .int ((0 : Int32))), (4, .long ((0 : Int64))), (6, .int ((1 : Int32)))]) [3, 4, 5, 2, 1, 0] rfl ?_
  exact k_Mod_most_33 C O hm
theorem w_Mod_most {G : jG} {X : jX} (C : jC G X cX12_most 9 RX12 179 4685) {v1 : Int32} {v2 : Int32} {h : Hp} {out : (Int32 × Hp)} (O : (O_Mod_most G X) out) (hm : s_Mod_most v1 v2 h = some out) : J G X 0 [(0, .ref (G.1 + 84)), (1, .int v1), (2, .int v2)] [] h := by
  unfold s_Mod_most at hm
  refine j_iload_n C 1 dX12_most_0 rfl rfl ?_
  refine j_iconst C 0 dX12_most_1 (by decide) ?_
  refine j_iconst C 1 dX12_most_2 (by decide) ?_
  refine j_cS C l_X12_113 [.int v1, .int ((0 : Int32)), .int ((1 : Int32))] [] (fun u1 => some (.int u1)) (fun _ => h) (fun u1 => [.int u1]) hm (fun l u hu => c_Mod_lies hu) rfl (Nat.le_of_ble_eq_true rfl) rfl (Nat.le_of_ble_eq_true rfl) (Nat.le_of_ble_eq_true rfl) (fun _ => rfl) dX12_most_3 (fun u1 hm => ?_)
  refine j_ifeq C 21 dX12_most_6 (by decide) hm (fun hm => ?_) (fun hm => ?_)
  · refine j_sub (L' := []) [] rfl ?_
    exact w_Mod_most_21 C O hm
  · refine j_iload_n C 1 dX12_most_9 rfl rfl ?_
    refine j_iconst C 1 dX12_most_10 (by decide) ?_
    refine j_if_icmpne C 25 dX12_most_11 (by decide) hm (fun hm => ?_) (fun hm => ?_)
    · refine j_iload_n C 2 dX12_most_14 rfl rfl ?_
      refine j_cS C l_X12_280 [.int v2] [] (fun u2 => some (.int u2)) (fun _ => h) (fun u2 => [.int u2]) hm (fun l u hu => c_Mod_isMinute hu) rfl (Nat.le_of_ble_eq_true rfl) rfl (Nat.le_of_ble_eq_true rfl) (Nat.le_of_ble_eq_true rfl) (fun _ => rfl) dX12_most_15 (fun u2 hm => ?_)
      refine j_ifne C 25 dX12_most_18 (by decide) hm (fun hm => ?_) (fun hm => ?_)
      · refine j_sub (L' := []) [] rfl ?_
        exact w_Mod_most_21 C O hm
      · refine j_sub (L' := [(0, .ref (G.1 + 84)), (1, .int v1), (2, .int v2)]) [0, 1, 2] rfl ?_
        exact w_Mod_most_25 C O hm
    · refine j_sub (L' := [(0, .ref (G.1 + 84)), (1, .int v1), (2, .int v2)]) [0, 1, 2] rfl ?_
      exact w_Mod_most_25 C O hm
theorem c_Mod_most {G : jG} {l : Launch} {v1 : Int32} {v2 : Int32} {h : Hp} {out : (Int32 × Hp)} (hm : s_Mod_most v1 v2 h = some out) : mt G l yX12_most cX12_most 9 (some .int) 179 4685 [.ref (G.1 + 84), .int v1, .int v2] h (some (.int out.1)) out.2 :=
  mt_of (by decide) (Nat.le_of_ble_eq_true rfl) _ rfl (fun X I C O => w_Mod_most C O hm)
noncomputable def s_Mod_move (v1 : Int32) (h : Hp) : Option (Int32 × Hp) :=
  (s_Mod_lies v1 ((0 : Int32)) ((4 : Int32)) h).bind fun u1 => if u1 = 0 then
    (s_Mod_refuses ((-1 : Int32)) h).bind fun u5 => some (u5.1, u5.2)
  else
    ib ((187 : Int32)) 4998 <| if (hI h 86 (ix ((187 : Int32)))) = ((40 : Int32)) then
      (s_Mod_refuses ((-5 : Int32)) h).bind fun u4 => some (u4.1, u4.2)
    else
      ib (((121 : Int32)) + (hI h 86 (ix ((187 : Int32))))) 4998 <| lt (sI h 86 (ix (((121 : Int32)) + (hI h 86 (ix ((187 : Int32)))))) v1) fun h2 => ib ((187 : Int32)) 4998 <| ib ((187 : Int32)) 4998 <| (s_Mod_good ((hI h 86 (ix ((187 : Int32)))) + ((1 : Int32))) (sI h2 86 (ix ((187 : Int32))) ((hI h2 86 (ix ((187 : Int32)))) + ((1 : Int32))))).bind fun u3 => some (u3.1, u3.2)
def O_Mod_move (G : jG) (X : jX) (out : (Int32 × Hp)) : Prop := jO G X (some .int) (some (.int out.1)) out.2
theorem w_Mod_move {G : jG} {X : jX} (C : jC G X cX12_move 3 RX12 2 92) {v1 : Int32} {h : Hp} {out : (Int32 × Hp)} (O : (O_Mod_move G X) out) (hm : s_Mod_move v1 h = some out) : J G X 0 [(0, .ref (G.1 + 84)), (1, .int v1)] [] h := by
  unfold s_Mod_move at hm
  refine j_iload_n C 1 dX12_move_0 rfl rfl ?_
  refine j_iconst C 0 dX12_move_1 (by decide) ?_
  refine j_iconst C 4 dX12_move_2 (by decide) ?_
  refine j_cS C l_X12_113 [.int v1, .int ((0 : Int32)), .int ((4 : Int32))] [] (fun u1 => some (.int u1)) (fun _ => h) (fun u1 => [.int u1]) hm (fun l u hu => c_Mod_lies hu) rfl (Nat.le_of_ble_eq_true rfl) rfl (Nat.le_of_ble_eq_true rfl) (Nat.le_of_ble_eq_true rfl) (fun _ => rfl) dX12_move_3 (fun u1 hm => ?_)
  refine j_ifne C 15 dX12_move_6 (by decide) hm (fun hm => ?_) (fun hm => ?_)
  · refine j_aload_n C 0 dX12_move_9 rfl rfl ?_
    refine j_iconst C (-1 : Int32) dX12_move_10 (by decide) ?_
    refine j_cV C l_X12_117 [.int ((-1 : Int32))] [] (fun u5 => some (.int u5.1)) (fun u5 => u5.2) (fun u5 => [.int u5.1]) n_84 hm (fun l u hu => c_Mod_refuses hu) rfl (Nat.le_of_ble_eq_true rfl) rfl (Nat.le_of_ble_eq_true rfl) (Nat.le_of_ble_eq_true rfl) (fun _ => rfl) dX12_move_11 (fun u5 hm => ?_)
    obtain rfl := Option.some.inj hm
    exact j_iret C O dX12_move_14
  · refine j_aload_n C 0 dX12_move_15 rfl rfl ?_
    refine j_gS C f_X12_20 n_84 q_84_3 dX12_move_16 ?_
    refine j_sipush C 187 dX12_move_19 (by decide) ?_
    refine j_iald C n_86 hm dX12_move_22 (fun hm => ?_)
    refine j_istore_n C [(2, .int (hI h 86 (ix ((187 : Int32))))), (0, .ref (G.1 + 84)), (1, .int v1)] dX12_move_23 rfl (by decide) rfl ?_
    refine j_iload_n C 0 dX12_move_24 rfl rfl ?_
    refine j_bipush C 40 dX12_move_25 (by decide) ?_
    refine j_if_icmpne C 37 dX12_move_27 (by decide) hm (fun hm => ?_) (fun hm => ?_)
    · refine j_aload_n C 1 dX12_move_30 rfl rfl ?_
      refine j_bipush C (-5 : Int32) dX12_move_31 (by decide) ?_
      refine j_cV C l_X12_117 [.int ((-5 : Int32))] [] (fun u4 => some (.int u4.1)) (fun u4 => u4.2) (fun u4 => [.int u4.1]) n_84 hm (fun l u hu => c_Mod_refuses hu) rfl (Nat.le_of_ble_eq_true rfl) rfl (Nat.le_of_ble_eq_true rfl) (Nat.le_of_ble_eq_true rfl) (fun _ => rfl) dX12_move_33 (fun u4 hm => ?_)
      obtain rfl := Option.some.inj hm
      exact j_iret C O dX12_move_36
    · refine j_aload_n C 1 dX12_move_37 rfl rfl ?_
      refine j_gS C f_X12_20 n_84 q_84_3 dX12_move_38 ?_
      refine j_bipush C 121 dX12_move_41 (by decide) ?_
      refine j_iload_n C 0 dX12_move_43 rfl rfl ?_
      refine j_iadd C dX12_move_44 ?_
      refine j_iload_n C 2 dX12_move_45 rfl rfl ?_
      refine j_iast C n_86 hm dX12_move_46 (fun hm => ?_)
      refine j_aload_n C 1 dX12_move_47 rfl rfl ?_
      refine j_nmH hm (fun h2 hm => ?_)
      refine j_gS C f_X12_20 n_84 q_84_3 dX12_move_48 ?_
      refine j_sipush C 187 dX12_move_51 (by decide) ?_
      refine j_dup2_11 C dX12_move_54 rfl rfl ?_
      refine j_iald C n_86 hm dX12_move_55 (fun hm => ?_)
      refine j_iconst C 1 dX12_move_56 (by decide) ?_
      refine j_iadd C dX12_move_57 ?_
      refine j_iast C n_86 hm dX12_move_58 (fun hm => ?_)
      refine j_aload_n C 1 dX12_move_59 rfl rfl ?_
      refine j_iload_n C 0 dX12_move_60 rfl rfl ?_
      refine j_iconst C 1 dX12_move_61 (by decide) ?_
      refine j_iadd C dX12_move_62 ?_
      refine j_cV C l_X12_121 [.int ((hI h 86 (ix ((187 : Int32)))) + ((1 : Int32)))] [] (fun u3 => some (.int u3.1)) (fun u3 => u3.2) (fun u3 => [.int u3.1]) n_84 hm (fun l u hu => c_Mod_good hu) rfl (Nat.le_of_ble_eq_true rfl) rfl (Nat.le_of_ble_eq_true rfl) (Nat.le_of_ble_eq_true rfl) (fun _ => rfl) dX12_move_63 (fun u3 hm => ?_)
      obtain rfl := Option.some.inj hm
      exact j_iret C O dX12_move_66
theorem c_Mod_move {G : jG} {l : Launch} {v1 : Int32} {h : Hp} {out : (Int32 × Hp)} (hm : s_Mod_move v1 h = some out) : mt G l yX12_move cX12_move 3 (some .int) 2 92 [.ref (G.1 + 84), .int v1] h (some (.int out.1)) out.2 :=
  mt_of (by decide) (Nat.le_of_ble_eq_true rfl) _ rfl (fun X I C O => w_Mod_move C O hm)
noncomputable def s_Mod_order_50 (s0 : Int32) (h : Hp) : Option (Int32 × Hp) :=
  some (s0, h)
noncomputable def s_Mod_order_37 (h : Hp) : Option (Int32 × Hp) :=
  s_Mod_order_50 (hI h 84 38) h
noncomputable def s_Mod_order (v1 : Int32) (h : Hp) : Option (Int32 × Hp) :=
  ib ((186 : Int32)) 4998 <| (s_Mod_lies v1 ((-1 : Int32)) ((hI h 86 (ix ((186 : Int32)))) - ((1 : Int32))) h).bind fun u1 => if u1 = 0 then
    some ((-1 : Int32), h)
  else
    (s_Mod_laysOrders h).bind fun u2 => if v1 = ((-1 : Int32)) then
      s_Mod_order_37 u2
    else
      if (hI u2 84 38) = ((-1 : Int32)) then
        s_Mod_order_37 u2
      else
        ib v1 6 <| s_Mod_order_50 (hI u2 105 (ix v1)) u2
def O_Mod_order (G : jG) (X : jX) (out : (Int32 × Hp)) : Prop := jO G X (some .int) (some (.int out.1)) out.2
theorem w_Mod_order_50 {G : jG} {X : jX} (C : jC G X cX12_order 2 RX12 180 4699) {s0 : Int32} {h : Hp} {out : (Int32 × Hp)} (O : (O_Mod_order G X) out) (hm : s_Mod_order_50 s0 h = some out) : J G X 50 [] [.int s0] h := by
  unfold s_Mod_order_50 at hm
  obtain rfl := Option.some.inj hm
  exact j_iret C O dX12_order_50
theorem w_Mod_order_37 {G : jG} {X : jX} (C : jC G X cX12_order 2 RX12 180 4699) {h : Hp} {out : (Int32 × Hp)} (O : (O_Mod_order G X) out) (hm : s_Mod_order_37 h = some out) : J G X 37 [(0, .ref (G.1 + 84))] [] h := by
  unfold s_Mod_order_37 at hm
  refine j_aload_n C 0 dX12_order_37 rfl rfl ?_
  refine j_gI C f_X12_377 n_84 dX12_order_38 ?_
  refine j_goto C 50 dX12_order_41 (by decide) ?_
  refine j_sub (L' := []) [] rfl ?_
  exact w_Mod_order_50 C O hm
theorem w_Mod_order {G : jG} {X : jX} (C : jC G X cX12_order 2 RX12 180 4699) {v1 : Int32} {h : Hp} {out : (Int32 × Hp)} (O : (O_Mod_order G X) out) (hm : s_Mod_order v1 h = some out) : J G X 0 [(0, .ref (G.1 + 84)), (1, .int v1)] [] h := by
  unfold s_Mod_order at hm
  refine j_iload_n C 1 dX12_order_0 rfl rfl ?_
  refine j_iconst C (-1 : Int32) dX12_order_1 (by decide) ?_
  refine j_aload_n C 0 dX12_order_2 rfl rfl ?_
  refine j_gS C f_X12_20 n_84 q_84_3 dX12_order_3 ?_
  refine j_sipush C 186 dX12_order_6 (by decide) ?_
  refine j_iald C n_86 hm dX12_order_9 (fun hm => ?_)
  refine j_iconst C 1 dX12_order_10 (by decide) ?_
  refine j_isub C dX12_order_11 ?_
  refine j_cS C l_X12_113 [.int v1, .int ((-1 : Int32)), .int ((hI h 86 (ix ((186 : Int32)))) - ((1 : Int32)))] [] (fun u1 => some (.int u1)) (fun _ => h) (fun u1 => [.int u1]) hm (fun l u hu => c_Mod_lies hu) rfl (Nat.le_of_ble_eq_true rfl) rfl (Nat.le_of_ble_eq_true rfl) (Nat.le_of_ble_eq_true rfl) (fun _ => rfl) dX12_order_12 (fun u1 hm => ?_)
  refine j_ifne C 20 dX12_order_15 (by decide) hm (fun hm => ?_) (fun hm => ?_)
  · refine j_iconst C (-1 : Int32) dX12_order_18 (by decide) ?_
    obtain rfl := Option.some.inj hm
    exact j_iret C O dX12_order_19
  · refine j_aload_n C 0 dX12_order_20 rfl rfl ?_
    refine j_cV C l_X12_387 [] [] (fun _ => none) (fun u2 => u2) (fun u2 => []) n_84 hm (fun l u hu => c_Mod_laysOrders hu) rfl (Nat.le_of_ble_eq_true rfl) rfl (Nat.le_of_ble_eq_true rfl) (Nat.le_of_ble_eq_true rfl) (fun _ => rfl) dX12_order_21 (fun u2 hm => ?_)
    refine j_iload_n C 1 dX12_order_24 rfl rfl ?_
    refine j_iconst C (-1 : Int32) dX12_order_25 (by decide) ?_
    refine j_if_icmpeq C 37 dX12_order_26 (by decide) hm (fun hm => ?_) (fun hm => ?_)
    · refine j_sub (L' := [(0, .ref (G.1 + 84))]) [0] rfl ?_
      exact w_Mod_order_37 C O hm
    · refine j_aload_n C 0 dX12_order_29 rfl rfl ?_
      refine j_gI C f_X12_377 n_84 dX12_order_30 ?_
      refine j_iconst C (-1 : Int32) dX12_order_33 (by decide) ?_
      refine j_if_icmpne C 44 dX12_order_34 (by decide) hm (fun hm => ?_) (fun hm => ?_)
      · refine j_sub (L' := [(0, .ref (G.1 + 84))]) [0] rfl ?_
        exact w_Mod_order_37 C O hm
      · refine j_aload_n C 0 dX12_order_44 rfl rfl ?_
        refine j_gS C f_X12_85 n_84 q_84_35 dX12_order_45 ?_
        refine j_iload_n C 1 dX12_order_48 rfl rfl ?_
        refine j_iald C n_105 hm dX12_order_49 (fun hm => ?_)
        refine j_sub (L' := []) [] rfl ?_
        exact w_Mod_order_50 C O hm
theorem c_Mod_order {G : jG} {l : Launch} {v1 : Int32} {h : Hp} {out : (Int32 × Hp)} (hm : s_Mod_order v1 h = some out) : mt G l yX12_order cX12_order 2 (some .int) 180 4699 [.ref (G.1 + 84), .int v1] h (some (.int out.1)) out.2 :=
  mt_of (by decide) (Nat.le_of_ble_eq_true rfl) _ rfl (fun X I C O => w_Mod_order C O hm)
noncomputable def s_Mod_right_14 (h : Hp) : Option (Int32 × Hp) :=
  some ((-1 : Int32), h)
noncomputable def s_Mod_right (v1 : Int32) (v2 : Int32) (h : Hp) : Option (Int32 × Hp) :=
  (s_Mod_isMinute v1 h).bind fun u1 => if u1 = 0 then
    s_Mod_right_14 h
  else
    (s_Mod_isMinute v2 h).bind fun u2 => if u2 = 0 then
      s_Mod_right_14 h
    else
      (s_Mod_highs h).bind fun u3 => (s_Mod_rightBy v1 (Int32.toInt64 v2) u3.2).bind fun u4 => some (u4, u3.2)
def O_Mod_right (G : jG) (X : jX) (out : (Int32 × Hp)) : Prop := jO G X (some .int) (some (.int out.1)) out.2
theorem w_Mod_right_14 {G : jG} {X : jX} (C : jC G X cX12_right 3 RX12 180 4701) {h : Hp} {out : (Int32 × Hp)} (O : (O_Mod_right G X) out) (hm : s_Mod_right_14 h = some out) : J G X 14 [] [] h := by
  unfold s_Mod_right_14 at hm
  refine j_iconst C (-1 : Int32) dX12_right_14 (by decide) ?_
  obtain rfl := Option.some.inj hm
  exact j_iret C O dX12_right_15
theorem w_Mod_right {G : jG} {X : jX} (C : jC G X cX12_right 3 RX12 180 4701) {v1 : Int32} {v2 : Int32} {h : Hp} {out : (Int32 × Hp)} (O : (O_Mod_right G X) out) (hm : s_Mod_right v1 v2 h = some out) : J G X 0 [(0, .ref (G.1 + 84)), (1, .int v1), (2, .int v2)] [] h := by
  unfold s_Mod_right at hm
  refine j_iload_n C 1 dX12_right_0 rfl rfl ?_
  refine j_cS C l_X12_280 [.int v1] [] (fun u1 => some (.int u1)) (fun _ => h) (fun u1 => [.int u1]) hm (fun l u hu => c_Mod_isMinute hu) rfl (Nat.le_of_ble_eq_true rfl) rfl (Nat.le_of_ble_eq_true rfl) (Nat.le_of_ble_eq_true rfl) (fun _ => rfl) dX12_right_1 (fun u1 hm => ?_)
  refine j_ifeq C 14 dX12_right_4 (by decide) hm (fun hm => ?_) (fun hm => ?_)
  · refine j_sub (L' := []) [] rfl ?_
    exact w_Mod_right_14 C O hm
  · refine j_iload_n C 2 dX12_right_7 rfl rfl ?_
    refine j_cS C l_X12_280 [.int v2] [] (fun u2 => some (.int u2)) (fun _ => h) (fun u2 => [.int u2]) hm (fun l u hu => c_Mod_isMinute hu) rfl (Nat.le_of_ble_eq_true rfl) rfl (Nat.le_of_ble_eq_true rfl) (Nat.le_of_ble_eq_true rfl) (fun _ => rfl) dX12_right_8 (fun u2 hm => ?_)
    refine j_ifne C 16 dX12_right_11 (by decide) hm (fun hm => ?_) (fun hm => ?_)
    · refine j_sub (L' := []) [] rfl ?_
      exact w_Mod_right_14 C O hm
    · refine j_aload_n C 0 dX12_right_16 rfl rfl ?_
      refine j_cV C l_X12_423 [] [] (fun u3 => some (.int u3.1)) (fun u3 => u3.2) (fun u3 => [.int u3.1]) n_84 hm (fun l u hu => c_Mod_highs hu) rfl (Nat.le_of_ble_eq_true rfl) rfl (Nat.le_of_ble_eq_true rfl) (Nat.le_of_ble_eq_true rfl) (fun _ => rfl) dX12_right_17 (fun u3 hm => ?_)
      refine j_pop C dX12_right_20 rfl ?_
      refine j_aload_n C 0 dX12_right_21 rfl rfl ?_
      refine j_iload_n C 1 dX12_right_22 rfl rfl ?_
      refine j_iload_n C 2 dX12_right_23 rfl rfl ?_
      refine j_i2l C dX12_right_24 ?_
      refine j_cV C l_X12_426 [.int v1, .long (Int32.toInt64 v2)] [] (fun u4 => some (.int u4)) (fun _ => u3.2) (fun u4 => [.int u4]) n_84 hm (fun l u hu => c_Mod_rightBy hu) rfl (Nat.le_of_ble_eq_true rfl) rfl (Nat.le_of_ble_eq_true rfl) (Nat.le_of_ble_eq_true rfl) (fun _ => rfl) dX12_right_25 (fun u4 hm => ?_)
      obtain rfl := Option.some.inj hm
      exact j_iret C O dX12_right_28
theorem c_Mod_right {G : jG} {l : Launch} {v1 : Int32} {v2 : Int32} {h : Hp} {out : (Int32 × Hp)} (hm : s_Mod_right v1 v2 h = some out) : mt G l yX12_right cX12_right 3 (some .int) 180 4701 [.ref (G.1 + 84), .int v1, .int v2] h (some (.int out.1)) out.2 :=
  mt_of (by decide) (Nat.le_of_ble_eq_true rfl) _ rfl (fun X I C O => w_Mod_right C O hm)
noncomputable def s_Mod_row_110 (v1 : Int32) (v2 : Int32) (v3 : Int32) (s0 : Int32) (s1 : Int32) (h : Hp) : Option ((Int32 × Int32 × Int32 × Hp) ⊕ (Int32 × Hp)) :=
  some (.inl (v1, v2, (v3 + (1 : Int32)), (sI h 84 6 (s1 + s0))))
noncomputable def s_Mod_row_93 (v1 : Int32) (v3 : Int32) (v4 : Int32) (s0 : Int32) (s1 : Int32) (h : Hp) : Option ((Int32 × Int32 × Int32 × Hp) ⊕ (Int32 × Hp)) :=
  if v4 = 0 then
    s_Mod_row_110 v1 (s1 + s0) v3 ((1 : Int32)) (hI h 84 6) h
  else
    s_Mod_row_110 v1 (s1 + s0) v3 ((0 : Int32)) (hI h 84 6) h
noncomputable def s_Mod_row_82 (v1 : Int32) (v2 : Int32) (v3 : Int32) (v4 : Int32) (h : Hp) : Option ((Int32 × Int32 × Int32 × Hp) ⊕ (Int32 × Hp)) :=
  if v4 = 0 then
    s_Mod_row_93 v1 v3 v4 ((0 : Int32)) v2 h
  else
    s_Mod_row_93 v1 v3 v4 ((1 : Int32)) v2 h
noncomputable def s_Mod_row_60 (v1 : Int32) (v2 : Int32) (v3 : Int32) (s0 : Int32) (h : Hp) : Option ((Int32 × Int32 × Int32 × Hp) ⊕ (Int32 × Hp)) :=
  if s0 = 0 then
    s_Mod_row_82 v1 v2 v3 s0 h
  else
    ib v3 400 <| ib (((41 : Int32)) + v3) 4998 <| s_Mod_row_82 v1 v2 v3 s0 (sI h 86 (ix (((41 : Int32)) + v3)) (hI h 90 (ix v3)))
noncomputable def s_Mod_row_59 (v1 : Int32) (v2 : Int32) (v3 : Int32) (h : Hp) : Option ((Int32 × Int32 × Int32 × Hp) ⊕ (Int32 × Hp)) :=
  s_Mod_row_60 v1 v2 v3 ((0 : Int32)) h
noncomputable def s_Mod_row_30 (v1 : Int32) (v2 : Int32) (v3 : Int32) (h : Hp) : Option ((Int32 × Int32 × Int32 × Hp) ⊕ (Int32 × Hp)) :=
  if v1 ≤ v3 then
    (s_Mod_good v2 h).bind fun u1 => some (.inr (u1.1, u1.2))
  else
    if ((50 : Int32)) ≤ v3 then
      s_Mod_row_59 v1 v2 v3 h
    else
      ib v3 400 <| (s_Mod_lies (hI h 90 (ix v3)) ((0 : Int32)) ((5 : Int32)) h).bind fun u2 => if u2 = 0 then
        s_Mod_row_59 v1 v2 v3 h
      else
        s_Mod_row_60 v1 v2 v3 ((1 : Int32)) h
noncomputable def s_Mod_row (h : Hp) : Option (Int32 × Hp) :=
  if (hI h 84 10) = 0 then
    (s_Mod_refuses ((-6 : Int32)) (sI h 84 10 ((0 : Int32)))).bind fun u1 => some (u1.1, u1.2)
  else
    lp (fun q => s_Mod_row_30 q.1 q.2.1 q.2.2.1 q.2.2.2) ((hI h 84 10), ((0 : Int32)), ((0 : Int32)), (sI (sI h 84 10 ((0 : Int32))) 84 6 ((0 : Int32))))
def O_Mod_row (G : jG) (X : jX) (out : (Int32 × Hp)) : Prop := jO G X (some .int) (some (.int out.1)) out.2
def P_Mod_row_30 (G : jG) (X : jX) (q : Int32 × Int32 × Int32 × Hp) : Prop := J G X 30 [(0, .ref (G.1 + 84)), (1, .int q.1), (2, .int q.2.1), (3, .int q.2.2.1)] [] q.2.2.2
def O_Mod_row_30 (G : jG) (X : jX) (t : ((Int32 × Int32 × Int32 × Hp) ⊕ (Int32 × Hp))) : Prop := Sum.elim (P_Mod_row_30 G X) (O_Mod_row G X) t
theorem w_Mod_row_110 {G : jG} {X : jX} (C : jC G X cX12_row 5 RX12 2 92) {v1 : Int32} {v2 : Int32} {v3 : Int32} {s0 : Int32} {s1 : Int32} {h : Hp} {out : ((Int32 × Int32 × Int32 × Hp) ⊕ (Int32 × Hp))} (O : (O_Mod_row_30 G X) out) (hm : s_Mod_row_110 v1 v2 v3 s0 s1 h = some out) : J G X 110 [(0, .ref (G.1 + 84)), (1, .int v1), (2, .int v2), (3, .int v3)] [.int s0, .int s1, .ref (G.1 + 84)] h := by
  unfold s_Mod_row_110 at hm
  refine j_iadd C dX12_row_110 ?_
  refine j_pI C f_X12_142 n_84 dX12_row_111 ?_
  refine j_iinc C 3 [(3, .int (v3 + (1 : Int32))), (0, .ref (G.1 + 84)), (1, .int v1), (2, .int v2)] dX12_row_114 rfl (add_lit (by decide)) (by decide) rfl ?_
  refine j_goto C 30 dX12_row_117 (by decide) ?_
  obtain rfl := Option.some.inj hm
  refine j_sub (L' := [(0, .ref (G.1 + 84)), (1, .int v1), (2, .int v2), (3, .int (v3 + (1 : Int32)))]) [1, 2, 3, 0] rfl ?_
  exact O
theorem w_Mod_row_93 {G : jG} {X : jX} (C : jC G X cX12_row 5 RX12 2 92) {v1 : Int32} {v3 : Int32} {v4 : Int32} {s0 : Int32} {s1 : Int32} {h : Hp} {out : ((Int32 × Int32 × Int32 × Hp) ⊕ (Int32 × Hp))} (O : (O_Mod_row_30 G X) out) (hm : s_Mod_row_93 v1 v3 v4 s0 s1 h = some out) : J G X 93 [(0, .ref (G.1 + 84)), (1, .int v1), (3, .int v3), (4, .int v4)] [.int s0, .int s1] h := by
  unfold s_Mod_row_93 at hm
  refine j_iadd C dX12_row_93 ?_
  refine j_istore_n C [(2, .int (s1 + s0)), (0, .ref (G.1 + 84)), (1, .int v1), (3, .int v3), (4, .int v4)] dX12_row_94 rfl (by decide) rfl ?_
  refine j_aload_n C 1 dX12_row_95 rfl rfl ?_
  refine j_dup C dX12_row_96 rfl ?_
  refine j_gI C f_X12_142 n_84 dX12_row_97 ?_
  refine j_iload C 4 dX12_row_100 rfl ?_
  refine j_ifeq C 109 dX12_row_102 (by decide) hm (fun hm => ?_) (fun hm => ?_)
  · refine j_iconst C 1 dX12_row_109 (by decide) ?_
    refine j_sub (L' := [(0, .ref (G.1 + 84)), (1, .int v1), (2, .int (s1 + s0)), (3, .int v3)]) [1, 2, 0, 3] rfl ?_
    exact w_Mod_row_110 C O hm
  · refine j_iconst C 0 dX12_row_105 (by decide) ?_
    refine j_goto C 110 dX12_row_106 (by decide) ?_
    refine j_sub (L' := [(0, .ref (G.1 + 84)), (1, .int v1), (2, .int (s1 + s0)), (3, .int v3)]) [1, 2, 0, 3] rfl ?_
    exact w_Mod_row_110 C O hm
theorem w_Mod_row_82 {G : jG} {X : jX} (C : jC G X cX12_row 5 RX12 2 92) {v1 : Int32} {v2 : Int32} {v3 : Int32} {v4 : Int32} {h : Hp} {out : ((Int32 × Int32 × Int32 × Hp) ⊕ (Int32 × Hp))} (O : (O_Mod_row_30 G X) out) (hm : s_Mod_row_82 v1 v2 v3 v4 h = some out) : J G X 82 [(0, .ref (G.1 + 84)), (1, .int v1), (2, .int v2), (3, .int v3), (4, .int v4)] [] h := by
  unfold s_Mod_row_82 at hm
  refine j_iload_n C 2 dX12_row_82 rfl rfl ?_
  refine j_iload C 4 dX12_row_83 rfl ?_
  refine j_ifeq C 92 dX12_row_85 (by decide) hm (fun hm => ?_) (fun hm => ?_)
  · refine j_iconst C 0 dX12_row_92 (by decide) ?_
    refine j_sub (L' := [(0, .ref (G.1 + 84)), (1, .int v1), (3, .int v3), (4, .int v4)]) [0, 1, 3, 4] rfl ?_
    exact w_Mod_row_93 C O hm
  · refine j_iconst C 1 dX12_row_88 (by decide) ?_
    refine j_goto C 93 dX12_row_89 (by decide) ?_
    refine j_sub (L' := [(0, .ref (G.1 + 84)), (1, .int v1), (3, .int v3), (4, .int v4)]) [0, 1, 3, 4] rfl ?_
    exact w_Mod_row_93 C O hm
theorem w_Mod_row_60 {G : jG} {X : jX} (C : jC G X cX12_row 5 RX12 2 92) {v1 : Int32} {v2 : Int32} {v3 : Int32} {s0 : Int32} {h : Hp} {out : ((Int32 × Int32 × Int32 × Hp) ⊕ (Int32 × Hp))} (O : (O_Mod_row_30 G X) out) (hm : s_Mod_row_60 v1 v2 v3 s0 h = some out) : J G X 60 [(0, .ref (G.1 + 84)), (1, .int v1), (2, .int v2), (3, .int v3)] [.int s0] h := by
  unfold s_Mod_row_60 at hm
  refine j_istore C [(4, .int s0), (0, .ref (G.1 + 84)), (1, .int v1), (2, .int v2), (3, .int v3)] dX12_row_60 (by decide) rfl ?_
  refine j_iload C 0 dX12_row_62 rfl ?_
  refine j_ifeq C 82 dX12_row_64 (by decide) hm (fun hm => ?_) (fun hm => ?_)
  · refine j_sub (L' := [(0, .ref (G.1 + 84)), (1, .int v1), (2, .int v2), (3, .int v3), (4, .int s0)]) [1, 2, 3, 4, 0] rfl ?_
    exact w_Mod_row_82 C O hm
  · refine j_aload_n C 1 dX12_row_67 rfl rfl ?_
    refine j_gS C f_X12_20 n_84 q_84_3 dX12_row_68 ?_
    refine j_bipush C 41 dX12_row_71 (by decide) ?_
    refine j_iload_n C 4 dX12_row_73 rfl rfl ?_
    refine j_iadd C dX12_row_74 ?_
    refine j_aload_n C 1 dX12_row_75 rfl rfl ?_
    refine j_gS C f_X12_34 n_84 q_84_8 dX12_row_76 ?_
    refine j_iload_n C 4 dX12_row_79 rfl rfl ?_
    refine j_bald C n_90 hm dX12_row_80 (fun hm => ?_)
    refine j_iast C n_86 hm dX12_row_81 (fun hm => ?_)
    refine j_sub (L' := [(0, .ref (G.1 + 84)), (1, .int v1), (2, .int v2), (3, .int v3), (4, .int s0)]) [1, 2, 3, 4, 0] rfl ?_
    exact w_Mod_row_82 C O hm
theorem w_Mod_row_59 {G : jG} {X : jX} (C : jC G X cX12_row 5 RX12 2 92) {v1 : Int32} {v2 : Int32} {v3 : Int32} {h : Hp} {out : ((Int32 × Int32 × Int32 × Hp) ⊕ (Int32 × Hp))} (O : (O_Mod_row_30 G X) out) (hm : s_Mod_row_59 v1 v2 v3 h = some out) : J G X 59 [(0, .ref (G.1 + 84)), (1, .int v1), (2, .int v2), (3, .int v3)] [] h := by
  unfold s_Mod_row_59 at hm
  refine j_iconst C 0 dX12_row_59 (by decide) ?_
  refine j_sub (L' := [(0, .ref (G.1 + 84)), (1, .int v1), (2, .int v2), (3, .int v3)]) [0, 1, 2, 3] rfl ?_
  exact w_Mod_row_60 C O hm
theorem w_Mod_row_30 {G : jG} {X : jX} (C : jC G X cX12_row 5 RX12 2 92) {v1 : Int32} {v2 : Int32} {v3 : Int32} {h : Hp} {out : ((Int32 × Int32 × Int32 × Hp) ⊕ (Int32 × Hp))} (O : (O_Mod_row_30 G X) out) (hm : s_Mod_row_30 v1 v2 v3 h = some out) : J G X 30 [(0, .ref (G.1 + 84)), (1, .int v1), (2, .int v2), (3, .int v3)] [] h := by
  unfold s_Mod_row_30 at hm
  refine j_iload_n C 3 dX12_row_30 rfl rfl ?_
  refine j_iload_n C 1 dX12_row_31 rfl rfl ?_
  refine j_if_icmpge C 120 dX12_row_32 (by decide) hm (fun hm => ?_) (fun hm => ?_)
  · refine j_aload_n C 0 dX12_row_120 rfl rfl ?_
    refine j_iload_n C 2 dX12_row_121 rfl rfl ?_
    refine j_cV C l_X12_121 [.int v2] [] (fun u1 => some (.int u1.1)) (fun u1 => u1.2) (fun u1 => [.int u1.1]) n_84 hm (fun l u hu => c_Mod_good hu) rfl (Nat.le_of_ble_eq_true rfl) rfl (Nat.le_of_ble_eq_true rfl) (Nat.le_of_ble_eq_true rfl) (fun _ => rfl) dX12_row_122 (fun u1 hm => ?_)
    obtain rfl := Option.some.inj hm
    exact j_iret C O dX12_row_125
  · refine j_iload_n C 3 dX12_row_35 rfl rfl ?_
    refine j_bipush C 50 dX12_row_36 (by decide) ?_
    refine j_if_icmpge C 59 dX12_row_38 (by decide) hm (fun hm => ?_) (fun hm => ?_)
    · refine j_sub (L' := [(0, .ref (G.1 + 84)), (1, .int v1), (2, .int v2), (3, .int v3)]) [0, 1, 2, 3] rfl ?_
      exact w_Mod_row_59 C O hm
    · refine j_aload_n C 0 dX12_row_41 rfl rfl ?_
      refine j_gS C f_X12_34 n_84 q_84_8 dX12_row_42 ?_
      refine j_iload_n C 3 dX12_row_45 rfl rfl ?_
      refine j_bald C n_90 hm dX12_row_46 (fun hm => ?_)
      refine j_iconst C 0 dX12_row_47 (by decide) ?_
      refine j_iconst C 5 dX12_row_48 (by decide) ?_
      refine j_cS C l_X12_113 [.int (hI h 90 (ix v3)), .int ((0 : Int32)), .int ((5 : Int32))] [] (fun u2 => some (.int u2)) (fun _ => h) (fun u2 => [.int u2]) hm (fun l u hu => c_Mod_lies hu) rfl (Nat.le_of_ble_eq_true rfl) rfl (Nat.le_of_ble_eq_true rfl) (Nat.le_of_ble_eq_true rfl) (fun _ => rfl) dX12_row_49 (fun u2 hm => ?_)
      refine j_ifeq C 59 dX12_row_52 (by decide) hm (fun hm => ?_) (fun hm => ?_)
      · refine j_sub (L' := [(0, .ref (G.1 + 84)), (1, .int v1), (2, .int v2), (3, .int v3)]) [0, 1, 2, 3] rfl ?_
        exact w_Mod_row_59 C O hm
      · refine j_iconst C 1 dX12_row_55 (by decide) ?_
        refine j_goto C 60 dX12_row_56 (by decide) ?_
        refine j_sub (L' := [(0, .ref (G.1 + 84)), (1, .int v1), (2, .int v2), (3, .int v3)]) [0, 1, 2, 3] rfl ?_
        exact w_Mod_row_60 C O hm
theorem k_Mod_row_30 {G : jG} {X : jX} (C : jC G X cX12_row 5 RX12 2 92) {v1 : Int32} {v2 : Int32} {v3 : Int32} {h : Hp} {out : (Int32 × Hp)} (O : (O_Mod_row G X) out) (hm : lp (fun q => s_Mod_row_30 q.1 q.2.1 q.2.2.1 q.2.2.2) (v1, v2, v3, h) = some out) : J G X 30 [(0, .ref (G.1 + 84)), (1, .int v1), (2, .int v2), (3, .int v3)] [] h :=
  lp_ok (P := P_Mod_row_30 G X) (O := (O_Mod_row G X)) (fun q r hm O => w_Mod_row_30 C O hm) hm O
theorem w_Mod_row {G : jG} {X : jX} (C : jC G X cX12_row 5 RX12 2 92) {h : Hp} {out : (Int32 × Hp)} (O : (O_Mod_row G X) out) (hm : s_Mod_row h = some out) : J G X 0 [(0, .ref (G.1 + 84))] [] h := by
  unfold s_Mod_row at hm
  refine j_aload_n C 0 dX12_row_0 rfl rfl ?_
  refine j_gI C f_X12_139 n_84 dX12_row_1 ?_
  refine j_istore_n C [(1, .int (hI h 84 10)), (0, .ref (G.1 + 84))] dX12_row_4 rfl (by decide) rfl ?_
  refine j_aload_n C 1 dX12_row_5 rfl rfl ?_
  refine j_iconst C 0 dX12_row_6 (by decide) ?_
  refine j_pI C f_X12_139 n_84 dX12_row_7 ?_
  refine j_iload_n C 0 dX12_row_10 rfl rfl ?_
  refine j_ifne C 21 dX12_row_11 (by decide) hm (fun hm => ?_) (fun hm => ?_)
  · refine j_aload_n C 1 dX12_row_14 rfl rfl ?_
    refine j_bipush C (-6 : Int32) dX12_row_15 (by decide) ?_
    refine j_cV C l_X12_117 [.int ((-6 : Int32))] [] (fun u1 => some (.int u1.1)) (fun u1 => u1.2) (fun u1 => [.int u1.1]) n_84 hm (fun l u hu => c_Mod_refuses hu) rfl (Nat.le_of_ble_eq_true rfl) rfl (Nat.le_of_ble_eq_true rfl) (Nat.le_of_ble_eq_true rfl) (fun _ => rfl) dX12_row_17 (fun u1 hm => ?_)
    obtain rfl := Option.some.inj hm
    exact j_iret C O dX12_row_20
  · refine j_iconst C 0 dX12_row_21 (by decide) ?_
    refine j_istore_n C [(2, .int ((0 : Int32))), (1, .int (hI h 84 10)), (0, .ref (G.1 + 84))] dX12_row_22 rfl (by decide) rfl ?_
    refine j_aload_n C 2 dX12_row_23 rfl rfl ?_
    refine j_iconst C 0 dX12_row_24 (by decide) ?_
    refine j_pI C f_X12_142 n_84 dX12_row_25 ?_
    refine j_iconst C 0 dX12_row_28 (by decide) ?_
    refine j_istore_n C [(3, .int ((0 : Int32))), (2, .int ((0 : Int32))), (1, .int (hI h 84 10)), (0, .ref (G.1 + 84))] dX12_row_29 rfl (by decide) rfl ?_
    refine j_sub (L' := [(0, .ref (G.1 + 84)), (1, .int (hI h 84 10)), (2, .int ((0 : Int32))), (3, .int ((0 : Int32)))]) [3, 2, 1, 0] rfl ?_
    exact k_Mod_row_30 C O hm
theorem c_Mod_row {G : jG} {l : Launch} {h : Hp} {out : (Int32 × Hp)} (hm : s_Mod_row h = some out) : mt G l yX12_row cX12_row 5 (some .int) 2 92 [.ref (G.1 + 84)] h (some (.int out.1)) out.2 :=
  mt_of (by decide) (Nat.le_of_ble_eq_true rfl) _ rfl (fun X I C O => w_Mod_row C O hm)
noncomputable def s_Mod_sea_69 (v1 : Int32) (v2 : Int32) (v3 : Int32) (h : Hp) : Option (Int32 × Hp) :=
  (s_Mod_replaces ((((0 : Int32)) + (((3 : Int32)) * v1)) + v2) v3 h).bind fun u1 => some (u1.1, u1.2)
noncomputable def s_Mod_sea_63 (h : Hp) : Option (Int32 × Hp) :=
  (s_Mod_refuses ((-1 : Int32)) h).bind fun u1 => some (u1.1, u1.2)
noncomputable def s_Mod_sea (v1 : Int32) (v2 : Int32) (v3 : Int32) (h : Hp) : Option (Int32 × Hp) :=
  (s_Mod_isEnd v1 h).bind fun u1 => if u1 = 0 then
    s_Mod_sea_63 h
  else
    (s_Mod_lies v2 ((0 : Int32)) ((2 : Int32)) h).bind fun u2 => if u2 = 0 then
      s_Mod_sea_63 h
    else
      if v2 = 0 then
        (s_Mod_lies v3 ((-500 : Int32)) ((500 : Int32)) h).bind fun u5 => if u5 = 0 then
          s_Mod_sea_63 h
        else
          s_Mod_sea_69 v1 v2 v3 h
      else
        if v2 = ((1 : Int32)) then
          (s_Mod_lies v3 ((0 : Int32)) ((3 : Int32)) h).bind fun u4 => if u4 = 0 then
            s_Mod_sea_63 h
          else
            s_Mod_sea_69 v1 v2 v3 h
        else
          (s_Mod_lies v3 ((-5 : Int32)) ((5 : Int32)) h).bind fun u3 => if u3 = 0 then
            s_Mod_sea_63 h
          else
            s_Mod_sea_69 v1 v2 v3 h
def O_Mod_sea (G : jG) (X : jX) (out : (Int32 × Hp)) : Prop := jO G X (some .int) (some (.int out.1)) out.2
theorem w_Mod_sea_69 {G : jG} {X : jX} (C : jC G X cX12_sea 4 RX12 3 114) {v1 : Int32} {v2 : Int32} {v3 : Int32} {h : Hp} {out : (Int32 × Hp)} (O : (O_Mod_sea G X) out) (hm : s_Mod_sea_69 v1 v2 v3 h = some out) : J G X 69 [(0, .ref (G.1 + 84)), (1, .int v1), (2, .int v2), (3, .int v3)] [] h := by
  unfold s_Mod_sea_69 at hm
  refine j_aload_n C 0 dX12_sea_69 rfl rfl ?_
  refine j_iconst C 0 dX12_sea_70 (by decide) ?_
  refine j_iconst C 3 dX12_sea_71 (by decide) ?_
  refine j_iload_n C 1 dX12_sea_72 rfl rfl ?_
  refine j_imul C dX12_sea_73 ?_
  refine j_iadd C dX12_sea_74 ?_
  refine j_iload_n C 2 dX12_sea_75 rfl rfl ?_
  refine j_iadd C dX12_sea_76 ?_
  refine j_iload_n C 3 dX12_sea_77 rfl rfl ?_
  refine j_cV C l_X12_128 [.int ((((0 : Int32)) + (((3 : Int32)) * v1)) + v2), .int v3] [] (fun u1 => some (.int u1.1)) (fun u1 => u1.2) (fun u1 => [.int u1.1]) n_84 hm (fun l u hu => c_Mod_replaces hu) rfl (Nat.le_of_ble_eq_true rfl) rfl (Nat.le_of_ble_eq_true rfl) (Nat.le_of_ble_eq_true rfl) (fun _ => rfl) dX12_sea_78 (fun u1 hm => ?_)
  obtain rfl := Option.some.inj hm
  exact j_iret C O dX12_sea_81
theorem w_Mod_sea_63 {G : jG} {X : jX} (C : jC G X cX12_sea 4 RX12 3 114) {h : Hp} {out : (Int32 × Hp)} (O : (O_Mod_sea G X) out) (hm : s_Mod_sea_63 h = some out) : J G X 63 [(0, .ref (G.1 + 84))] [] h := by
  unfold s_Mod_sea_63 at hm
  refine j_aload_n C 0 dX12_sea_63 rfl rfl ?_
  refine j_iconst C (-1 : Int32) dX12_sea_64 (by decide) ?_
  refine j_cV C l_X12_117 [.int ((-1 : Int32))] [] (fun u1 => some (.int u1.1)) (fun u1 => u1.2) (fun u1 => [.int u1.1]) n_84 hm (fun l u hu => c_Mod_refuses hu) rfl (Nat.le_of_ble_eq_true rfl) rfl (Nat.le_of_ble_eq_true rfl) (Nat.le_of_ble_eq_true rfl) (fun _ => rfl) dX12_sea_65 (fun u1 hm => ?_)
  obtain rfl := Option.some.inj hm
  exact j_iret C O dX12_sea_68
theorem w_Mod_sea {G : jG} {X : jX} (C : jC G X cX12_sea 4 RX12 3 114) {v1 : Int32} {v2 : Int32} {v3 : Int32} {h : Hp} {out : (Int32 × Hp)} (O : (O_Mod_sea G X) out) (hm : s_Mod_sea v1 v2 v3 h = some out) : J G X 0 [(0, .ref (G.1 + 84)), (1, .int v1), (2, .int v2), (3, .int v3)] [] h := by
  unfold s_Mod_sea at hm
  refine j_iload_n C 1 dX12_sea_0 rfl rfl ?_
  refine j_cS C l_X12_124 [.int v1] [] (fun u1 => some (.int u1)) (fun _ => h) (fun u1 => [.int u1]) hm (fun l u hu => c_Mod_isEnd hu) rfl (Nat.le_of_ble_eq_true rfl) rfl (Nat.le_of_ble_eq_true rfl) (Nat.le_of_ble_eq_true rfl) (fun _ => rfl) dX12_sea_1 (fun u1 hm => ?_)
  refine j_ifeq C 63 dX12_sea_4 (by decide) hm (fun hm => ?_) (fun hm => ?_)
  · refine j_sub (L' := [(0, .ref (G.1 + 84))]) [0] rfl ?_
    exact w_Mod_sea_63 C O hm
  · refine j_iload_n C 2 dX12_sea_7 rfl rfl ?_
    refine j_iconst C 0 dX12_sea_8 (by decide) ?_
    refine j_iconst C 2 dX12_sea_9 (by decide) ?_
    refine j_cS C l_X12_113 [.int v2, .int ((0 : Int32)), .int ((2 : Int32))] [] (fun u2 => some (.int u2)) (fun _ => h) (fun u2 => [.int u2]) hm (fun l u hu => c_Mod_lies hu) rfl (Nat.le_of_ble_eq_true rfl) rfl (Nat.le_of_ble_eq_true rfl) (Nat.le_of_ble_eq_true rfl) (fun _ => rfl) dX12_sea_10 (fun u2 hm => ?_)
    refine j_ifeq C 63 dX12_sea_13 (by decide) hm (fun hm => ?_) (fun hm => ?_)
    · refine j_sub (L' := [(0, .ref (G.1 + 84))]) [0] rfl ?_
      exact w_Mod_sea_63 C O hm
    · refine j_iload_n C 2 dX12_sea_16 rfl rfl ?_
      refine j_ifne C 36 dX12_sea_17 (by decide) hm (fun hm => ?_) (fun hm => ?_)
      · refine j_iload_n C 3 dX12_sea_20 rfl rfl ?_
        refine j_sipush C (-500 : Int32) dX12_sea_21 (by decide) ?_
        refine j_sipush C 500 dX12_sea_24 (by decide) ?_
        refine j_cS C l_X12_113 [.int v3, .int ((-500 : Int32)), .int ((500 : Int32))] [] (fun u5 => some (.int u5)) (fun _ => h) (fun u5 => [.int u5]) hm (fun l u hu => c_Mod_lies hu) rfl (Nat.le_of_ble_eq_true rfl) rfl (Nat.le_of_ble_eq_true rfl) (Nat.le_of_ble_eq_true rfl) (fun _ => rfl) dX12_sea_27 (fun u5 hm => ?_)
        refine j_ifeq C 63 dX12_sea_30 (by decide) hm (fun hm => ?_) (fun hm => ?_)
        · refine j_sub (L' := [(0, .ref (G.1 + 84))]) [0] rfl ?_
          exact w_Mod_sea_63 C O hm
        · refine j_goto C 69 dX12_sea_33 (by decide) ?_
          refine j_sub (L' := [(0, .ref (G.1 + 84)), (1, .int v1), (2, .int v2), (3, .int v3)]) [0, 1, 2, 3] rfl ?_
          exact w_Mod_sea_69 C O hm
      · refine j_iload_n C 2 dX12_sea_36 rfl rfl ?_
        refine j_iconst C 1 dX12_sea_37 (by decide) ?_
        refine j_if_icmpne C 53 dX12_sea_38 (by decide) hm (fun hm => ?_) (fun hm => ?_)
        · refine j_iload_n C 3 dX12_sea_41 rfl rfl ?_
          refine j_iconst C 0 dX12_sea_42 (by decide) ?_
          refine j_iconst C 3 dX12_sea_43 (by decide) ?_
          refine j_cS C l_X12_113 [.int v3, .int ((0 : Int32)), .int ((3 : Int32))] [] (fun u4 => some (.int u4)) (fun _ => h) (fun u4 => [.int u4]) hm (fun l u hu => c_Mod_lies hu) rfl (Nat.le_of_ble_eq_true rfl) rfl (Nat.le_of_ble_eq_true rfl) (Nat.le_of_ble_eq_true rfl) (fun _ => rfl) dX12_sea_44 (fun u4 hm => ?_)
          refine j_ifeq C 63 dX12_sea_47 (by decide) hm (fun hm => ?_) (fun hm => ?_)
          · refine j_sub (L' := [(0, .ref (G.1 + 84))]) [0] rfl ?_
            exact w_Mod_sea_63 C O hm
          · refine j_goto C 69 dX12_sea_50 (by decide) ?_
            refine j_sub (L' := [(0, .ref (G.1 + 84)), (1, .int v1), (2, .int v2), (3, .int v3)]) [0, 1, 2, 3] rfl ?_
            exact w_Mod_sea_69 C O hm
        · refine j_iload_n C 3 dX12_sea_53 rfl rfl ?_
          refine j_bipush C (-5 : Int32) dX12_sea_54 (by decide) ?_
          refine j_iconst C 5 dX12_sea_56 (by decide) ?_
          refine j_cS C l_X12_113 [.int v3, .int ((-5 : Int32)), .int ((5 : Int32))] [] (fun u3 => some (.int u3)) (fun _ => h) (fun u3 => [.int u3]) hm (fun l u hu => c_Mod_lies hu) rfl (Nat.le_of_ble_eq_true rfl) rfl (Nat.le_of_ble_eq_true rfl) (Nat.le_of_ble_eq_true rfl) (fun _ => rfl) dX12_sea_57 (fun u3 hm => ?_)
          refine j_ifne C 69 dX12_sea_60 (by decide) hm (fun hm => ?_) (fun hm => ?_)
          · refine j_sub (L' := [(0, .ref (G.1 + 84))]) [0] rfl ?_
            exact w_Mod_sea_63 C O hm
          · refine j_sub (L' := [(0, .ref (G.1 + 84)), (1, .int v1), (2, .int v2), (3, .int v3)]) [0, 1, 2, 3] rfl ?_
            exact w_Mod_sea_69 C O hm
theorem c_Mod_sea {G : jG} {l : Launch} {v1 : Int32} {v2 : Int32} {v3 : Int32} {h : Hp} {out : (Int32 × Hp)} (hm : s_Mod_sea v1 v2 v3 h = some out) : mt G l yX12_sea cX12_sea 4 (some .int) 3 114 [.ref (G.1 + 84), .int v1, .int v2, .int v3] h (some (.int out.1)) out.2 :=
  mt_of (by decide) (Nat.le_of_ble_eq_true rfl) _ rfl (fun X I C O => w_Mod_sea C O hm)
