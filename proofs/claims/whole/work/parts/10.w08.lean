noncomputable def s_Mod_cast_20 (h : Hp) : Option (Int32 × Hp) :=
  (s_Mod_refuses ((-1 : Int32)) h).bind fun u1 => some (u1.1, u1.2)
noncomputable def s_Mod_cast (v1 : Int32) (v2 : Int32) (h : Hp) : Option (Int32 × Hp) :=
  (s_Mod_isMinute v1 h).bind fun u1 => if u1 = 0 then
    s_Mod_cast_20 h
  else
    (s_Mod_lies v2 ((-9999 : Int32)) ((9999 : Int32)) h).bind fun u2 => if u2 = 0 then
      s_Mod_cast_20 h
    else
      ib ((188 : Int32)) 4998 <| if (hI h 86 (ix ((188 : Int32)))) = ((12 : Int32)) then
        (s_Mod_refuses ((-5 : Int32)) h).bind fun u6 => some (u6.1, u6.2)
      else
        ib (((161 : Int32)) + (((2 : Int32)) * (hI h 86 (ix ((188 : Int32)))))) 4998 <| lt (sI h 86 (ix (((161 : Int32)) + (((2 : Int32)) * (hI h 86 (ix ((188 : Int32))))))) v1) fun h3 => ib ((((161 : Int32)) + (((2 : Int32)) * (hI h 86 (ix ((188 : Int32)))))) + ((1 : Int32))) 4998 <| lt (sI h3 86 (ix ((((161 : Int32)) + (((2 : Int32)) * (hI h 86 (ix ((188 : Int32)))))) + ((1 : Int32)))) v2) fun h4 => ib ((188 : Int32)) 4998 <| ib ((188 : Int32)) 4998 <| (s_Mod_good (hI h 86 (ix ((188 : Int32)))) (sI h4 86 (ix ((188 : Int32))) ((hI h4 86 (ix ((188 : Int32)))) + ((1 : Int32))))).bind fun u5 => some (u5.1, u5.2)
def O_Mod_cast (G : jG) (X : jX) (out : (Int32 × Hp)) : Prop := jO G X (some .int) (some (.int out.1)) out.2
theorem w_Mod_cast_20 {G : jG} {X : jX} (C : jC G X cX12_cast 4 RX12 3 112) {h : Hp} {out : (Int32 × Hp)} (O : (O_Mod_cast G X) out) (hm : s_Mod_cast_20 h = some out) : J G X 20 [(0, .ref (G.1 + 84))] [] h := by
  unfold s_Mod_cast_20 at hm
  refine j_aload_n C 0 dX12_cast_20 rfl rfl ?_
  refine j_iconst C (-1 : Int32) dX12_cast_21 (by decide) ?_
  refine j_cV C l_X12_117 [.int ((-1 : Int32))] [] (fun u1 => some (.int u1.1)) (fun u1 => u1.2) (fun u1 => [.int u1.1]) n_84 hm (fun l u hu => c_Mod_refuses hu) rfl (Nat.le_of_ble_eq_true rfl) rfl (Nat.le_of_ble_eq_true rfl) (Nat.le_of_ble_eq_true rfl) (fun _ => rfl) dX12_cast_22 (fun u1 hm => ?_)
  obtain rfl := Option.some.inj hm
  exact j_iret C O dX12_cast_25
theorem w_Mod_cast {G : jG} {X : jX} (C : jC G X cX12_cast 4 RX12 3 112) {v1 : Int32} {v2 : Int32} {h : Hp} {out : (Int32 × Hp)} (O : (O_Mod_cast G X) out) (hm : s_Mod_cast v1 v2 h = some out) : J G X 0 [(0, .ref (G.1 + 84)), (1, .int v1), (2, .int v2)] [] h := by
  unfold s_Mod_cast at hm
  refine j_iload_n C 1 dX12_cast_0 rfl rfl ?_
  refine j_cS C l_X12_280 [.int v1] [] (fun u1 => some (.int u1)) (fun _ => h) (fun u1 => [.int u1]) hm (fun l u hu => c_Mod_isMinute hu) rfl (Nat.le_of_ble_eq_true rfl) rfl (Nat.le_of_ble_eq_true rfl) (Nat.le_of_ble_eq_true rfl) (fun _ => rfl) dX12_cast_1 (fun u1 hm => ?_)
  refine j_ifeq C 20 dX12_cast_4 (by decide) hm (fun hm => ?_) (fun hm => ?_)
  · refine j_sub (L' := [(0, .ref (G.1 + 84))]) [0] rfl ?_
    exact w_Mod_cast_20 C O hm
  · refine j_iload_n C 2 dX12_cast_7 rfl rfl ?_
    refine j_sipush C (-9999 : Int32) dX12_cast_8 (by decide) ?_
    refine j_sipush C 9999 dX12_cast_11 (by decide) ?_
    refine j_cS C l_X12_113 [.int v2, .int ((-9999 : Int32)), .int ((9999 : Int32))] [] (fun u2 => some (.int u2)) (fun _ => h) (fun u2 => [.int u2]) hm (fun l u hu => c_Mod_lies hu) rfl (Nat.le_of_ble_eq_true rfl) rfl (Nat.le_of_ble_eq_true rfl) (Nat.le_of_ble_eq_true rfl) (fun _ => rfl) dX12_cast_14 (fun u2 hm => ?_)
    refine j_ifne C 26 dX12_cast_17 (by decide) hm (fun hm => ?_) (fun hm => ?_)
    · refine j_sub (L' := [(0, .ref (G.1 + 84))]) [0] rfl ?_
      exact w_Mod_cast_20 C O hm
    · refine j_aload_n C 0 dX12_cast_26 rfl rfl ?_
      refine j_gS C f_X12_20 n_84 q_84_3 dX12_cast_27 ?_
      refine j_sipush C 188 dX12_cast_30 (by decide) ?_
      refine j_iald C n_86 hm dX12_cast_33 (fun hm => ?_)
      refine j_istore_n C [(3, .int (hI h 86 (ix ((188 : Int32))))), (0, .ref (G.1 + 84)), (1, .int v1), (2, .int v2)] dX12_cast_34 rfl (by decide) rfl ?_
      refine j_iload_n C 0 dX12_cast_35 rfl rfl ?_
      refine j_bipush C 12 dX12_cast_36 (by decide) ?_
      refine j_if_icmpne C 48 dX12_cast_38 (by decide) hm (fun hm => ?_) (fun hm => ?_)
      · refine j_aload_n C 1 dX12_cast_41 rfl rfl ?_
        refine j_bipush C (-5 : Int32) dX12_cast_42 (by decide) ?_
        refine j_cV C l_X12_117 [.int ((-5 : Int32))] [] (fun u6 => some (.int u6.1)) (fun u6 => u6.2) (fun u6 => [.int u6.1]) n_84 hm (fun l u hu => c_Mod_refuses hu) rfl (Nat.le_of_ble_eq_true rfl) rfl (Nat.le_of_ble_eq_true rfl) (Nat.le_of_ble_eq_true rfl) (fun _ => rfl) dX12_cast_44 (fun u6 hm => ?_)
        obtain rfl := Option.some.inj hm
        exact j_iret C O dX12_cast_47
      · refine j_aload_n C 1 dX12_cast_48 rfl rfl ?_
        refine j_gS C f_X12_20 n_84 q_84_3 dX12_cast_49 ?_
        refine j_sipush C 161 dX12_cast_52 (by decide) ?_
        refine j_iconst C 2 dX12_cast_55 (by decide) ?_
        refine j_iload_n C 0 dX12_cast_56 rfl rfl ?_
        refine j_imul C dX12_cast_57 ?_
        refine j_iadd C dX12_cast_58 ?_
        refine j_iload_n C 2 dX12_cast_59 rfl rfl ?_
        refine j_iast C n_86 hm dX12_cast_60 (fun hm => ?_)
        refine j_aload_n C 1 dX12_cast_61 rfl rfl ?_
        refine j_nmH hm (fun h3 hm => ?_)
        refine j_gS C f_X12_20 n_84 q_84_3 dX12_cast_62 ?_
        refine j_sipush C 161 dX12_cast_65 (by decide) ?_
        refine j_iconst C 2 dX12_cast_68 (by decide) ?_
        refine j_iload_n C 0 dX12_cast_69 rfl rfl ?_
        refine j_imul C dX12_cast_70 ?_
        refine j_iadd C dX12_cast_71 ?_
        refine j_iconst C 1 dX12_cast_72 (by decide) ?_
        refine j_iadd C dX12_cast_73 ?_
        refine j_iload_n C 3 dX12_cast_74 rfl rfl ?_
        refine j_iast C n_86 hm dX12_cast_75 (fun hm => ?_)
        refine j_aload_n C 1 dX12_cast_76 rfl rfl ?_
        refine j_nmH hm (fun h4 hm => ?_)
        refine j_gS C f_X12_20 n_84 q_84_3 dX12_cast_77 ?_
        refine j_sipush C 188 dX12_cast_80 (by decide) ?_
        refine j_dup2_11 C dX12_cast_83 rfl rfl ?_
        refine j_iald C n_86 hm dX12_cast_84 (fun hm => ?_)
        refine j_iconst C 1 dX12_cast_85 (by decide) ?_
        refine j_iadd C dX12_cast_86 ?_
        refine j_iast C n_86 hm dX12_cast_87 (fun hm => ?_)
        refine j_aload_n C 1 dX12_cast_88 rfl rfl ?_
        refine j_iload_n C 0 dX12_cast_89 rfl rfl ?_
        refine j_cV C l_X12_121 [.int (hI h 86 (ix ((188 : Int32))))] [] (fun u5 => some (.int u5.1)) (fun u5 => u5.2) (fun u5 => [.int u5.1]) n_84 hm (fun l u hu => c_Mod_good hu) rfl (Nat.le_of_ble_eq_true rfl) rfl (Nat.le_of_ble_eq_true rfl) (Nat.le_of_ble_eq_true rfl) (fun _ => rfl) dX12_cast_90 (fun u5 hm => ?_)
        obtain rfl := Option.some.inj hm
        exact j_iret C O dX12_cast_93
theorem c_Mod_cast {G : jG} {l : Launch} {v1 : Int32} {v2 : Int32} {h : Hp} {out : (Int32 × Hp)} (hm : s_Mod_cast v1 v2 h = some out) : mt G l yX12_cast cX12_cast 4 (some .int) 3 112 [.ref (G.1 + 84), .int v1, .int v2] h (some (.int out.1)) out.2 :=
  mt_of (by decide) (Nat.le_of_ble_eq_true rfl) _ rfl (fun X I C O => w_Mod_cast C O hm)
noncomputable def s_Mod_cell_23 (h : Hp) : Option (Int32 × Hp) :=
  some ((-100000 : Int32), h)
noncomputable def s_Mod_cell_77 (s0 : Int32) (h : Hp) : Option (Int32 × Hp) :=
  some (s0, h)
noncomputable def s_Mod_cell (v1 : Int32) (v2 : Int32) (v3 : Int32) (h : Hp) : Option (Int32 × Hp) :=
  (s_Mod_isCell v1 h).bind fun u1 => if u1 = 0 then
    s_Mod_cell_23 h
  else
    (s_Mod_isMinute v2 h).bind fun u2 => if u2 = 0 then
      s_Mod_cell_23 h
    else
      (s_Mod_lies v3 ((0 : Int32)) ((2 : Int32)) h).bind fun u3 => if u3 = 0 then
        s_Mod_cell_23 h
      else
        (s_Mod_looks h).bind fun u4 => if v3 = 0 then
          (s_Mod_kindOf v1 u4).bind fun u7 => (s_Mod_flowAt u7 v2 u4).bind fun u8 => s_Mod_cell_77 u8 u4
        else
          if v3 = ((1 : Int32)) then
            (s_Mod_kindOf v1 u4).bind fun u6 => ib ((((1440 : Int32)) * u6) + v2) 8640 <| s_Mod_cell_77 (hI u4 99 (ix ((((1440 : Int32)) * u6) + v2))) u4
          else
            (s_Mod_kindOf v1 u4).bind fun u5 => s_Mod_cell_77 u5 u4
def O_Mod_cell (G : jG) (X : jX) (out : (Int32 × Hp)) : Prop := jO G X (some .int) (some (.int out.1)) out.2
theorem w_Mod_cell_23 {G : jG} {X : jX} (C : jC G X cX12_cell 4 RX12 179 4679) {h : Hp} {out : (Int32 × Hp)} (O : (O_Mod_cell G X) out) (hm : s_Mod_cell_23 h = some out) : J G X 23 [] [] h := by
  unfold s_Mod_cell_23 at hm
  refine j_ldc_w C wd_1649 dX12_cell_23 ?_
  obtain rfl := Option.some.inj hm
  exact j_iret C O dX12_cell_26
theorem w_Mod_cell_77 {G : jG} {X : jX} (C : jC G X cX12_cell 4 RX12 179 4679) {s0 : Int32} {h : Hp} {out : (Int32 × Hp)} (O : (O_Mod_cell G X) out) (hm : s_Mod_cell_77 s0 h = some out) : J G X 77 [] [.int s0] h := by
  unfold s_Mod_cell_77 at hm
  obtain rfl := Option.some.inj hm
  exact j_iret C O dX12_cell_77
theorem w_Mod_cell {G : jG} {X : jX} (C : jC G X cX12_cell 4 RX12 179 4679) {v1 : Int32} {v2 : Int32} {v3 : Int32} {h : Hp} {out : (Int32 × Hp)} (O : (O_Mod_cell G X) out) (hm : s_Mod_cell v1 v2 v3 h = some out) : J G X 0 [(0, .ref (G.1 + 84)), (1, .int v1), (2, .int v2), (3, .int v3)] [] h := by
  unfold s_Mod_cell at hm
  refine j_iload_n C 1 dX12_cell_0 rfl rfl ?_
  refine j_cS C l_X12_334 [.int v1] [] (fun u1 => some (.int u1)) (fun _ => h) (fun u1 => [.int u1]) hm (fun l u hu => c_Mod_isCell hu) rfl (Nat.le_of_ble_eq_true rfl) rfl (Nat.le_of_ble_eq_true rfl) (Nat.le_of_ble_eq_true rfl) (fun _ => rfl) dX12_cell_1 (fun u1 hm => ?_)
  refine j_ifeq C 23 dX12_cell_4 (by decide) hm (fun hm => ?_) (fun hm => ?_)
  · refine j_sub (L' := []) [] rfl ?_
    exact w_Mod_cell_23 C O hm
  · refine j_iload_n C 2 dX12_cell_7 rfl rfl ?_
    refine j_cS C l_X12_280 [.int v2] [] (fun u2 => some (.int u2)) (fun _ => h) (fun u2 => [.int u2]) hm (fun l u hu => c_Mod_isMinute hu) rfl (Nat.le_of_ble_eq_true rfl) rfl (Nat.le_of_ble_eq_true rfl) (Nat.le_of_ble_eq_true rfl) (fun _ => rfl) dX12_cell_8 (fun u2 hm => ?_)
    refine j_ifeq C 23 dX12_cell_11 (by decide) hm (fun hm => ?_) (fun hm => ?_)
    · refine j_sub (L' := []) [] rfl ?_
      exact w_Mod_cell_23 C O hm
    · refine j_iload_n C 3 dX12_cell_14 rfl rfl ?_
      refine j_iconst C 0 dX12_cell_15 (by decide) ?_
      refine j_iconst C 2 dX12_cell_16 (by decide) ?_
      refine j_cS C l_X12_113 [.int v3, .int ((0 : Int32)), .int ((2 : Int32))] [] (fun u3 => some (.int u3)) (fun _ => h) (fun u3 => [.int u3]) hm (fun l u hu => c_Mod_lies hu) rfl (Nat.le_of_ble_eq_true rfl) rfl (Nat.le_of_ble_eq_true rfl) (Nat.le_of_ble_eq_true rfl) (fun _ => rfl) dX12_cell_17 (fun u3 hm => ?_)
      refine j_ifne C 27 dX12_cell_20 (by decide) hm (fun hm => ?_) (fun hm => ?_)
      · refine j_sub (L' := []) [] rfl ?_
        exact w_Mod_cell_23 C O hm
      · refine j_aload_n C 0 dX12_cell_27 rfl rfl ?_
        refine j_cV C l_X12_321 [] [] (fun _ => none) (fun u4 => u4) (fun u4 => []) n_84 hm (fun l u hu => c_Mod_looks hu) rfl (Nat.le_of_ble_eq_true rfl) rfl (Nat.le_of_ble_eq_true rfl) (Nat.le_of_ble_eq_true rfl) (fun _ => rfl) dX12_cell_28 (fun u4 hm => ?_)
        refine j_iload_n C 3 dX12_cell_31 rfl rfl ?_
        refine j_ifne C 48 dX12_cell_32 (by decide) hm (fun hm => ?_) (fun hm => ?_)
        · refine j_aload_n C 0 dX12_cell_35 rfl rfl ?_
          refine j_aload_n C 0 dX12_cell_36 rfl rfl ?_
          refine j_iload_n C 1 dX12_cell_37 rfl rfl ?_
          refine j_cV C l_X12_343 [.int v1] [.ref (G.1 + 84)] (fun u7 => some (.int u7)) (fun _ => u4) (fun u7 => [.int u7, .ref (G.1 + 84)]) n_84 hm (fun l u hu => c_Mod_kindOf hu) rfl (Nat.le_of_ble_eq_true rfl) rfl (Nat.le_of_ble_eq_true rfl) (Nat.le_of_ble_eq_true rfl) (fun _ => rfl) dX12_cell_38 (fun u7 hm => ?_)
          refine j_iload_n C 2 dX12_cell_41 rfl rfl ?_
          refine j_cV C l_X12_340 [.int u7, .int v2] [] (fun u8 => some (.int u8)) (fun _ => u4) (fun u8 => [.int u8]) n_84 hm (fun l u hu => c_Mod_flowAt hu) rfl (Nat.le_of_ble_eq_true rfl) rfl (Nat.le_of_ble_eq_true rfl) (Nat.le_of_ble_eq_true rfl) (fun _ => rfl) dX12_cell_42 (fun u8 hm => ?_)
          refine j_goto C 77 dX12_cell_45 (by decide) ?_
          refine j_sub (L' := []) [] rfl ?_
          exact w_Mod_cell_77 C O hm
        · refine j_iload_n C 3 dX12_cell_48 rfl rfl ?_
          refine j_iconst C 1 dX12_cell_49 (by decide) ?_
          refine j_if_icmpne C 72 dX12_cell_50 (by decide) hm (fun hm => ?_) (fun hm => ?_)
          · refine j_aload_n C 0 dX12_cell_53 rfl rfl ?_
            refine j_gS C f_X12_67 n_84 q_84_29 dX12_cell_54 ?_
            refine j_sipush C 1440 dX12_cell_57 (by decide) ?_
            refine j_aload_n C 0 dX12_cell_60 rfl rfl ?_
            refine j_iload_n C 1 dX12_cell_61 rfl rfl ?_
            refine j_cV C l_X12_343 [.int v1] [.int ((1440 : Int32)), .ref (G.1 + 99)] (fun u6 => some (.int u6)) (fun _ => u4) (fun u6 => [.int u6, .int ((1440 : Int32)), .ref (G.1 + 99)]) n_84 hm (fun l u hu => c_Mod_kindOf hu) rfl (Nat.le_of_ble_eq_true rfl) rfl (Nat.le_of_ble_eq_true rfl) (Nat.le_of_ble_eq_true rfl) (fun _ => rfl) dX12_cell_62 (fun u6 hm => ?_)
            refine j_imul C dX12_cell_65 ?_
            refine j_iload_n C 2 dX12_cell_66 rfl rfl ?_
            refine j_iadd C dX12_cell_67 ?_
            refine j_bald C n_99 hm dX12_cell_68 (fun hm => ?_)
            refine j_goto C 77 dX12_cell_69 (by decide) ?_
            refine j_sub (L' := []) [] rfl ?_
            exact w_Mod_cell_77 C O hm
          · refine j_aload_n C 0 dX12_cell_72 rfl rfl ?_
            refine j_iload_n C 1 dX12_cell_73 rfl rfl ?_
            refine j_cV C l_X12_343 [.int v1] [] (fun u5 => some (.int u5)) (fun _ => u4) (fun u5 => [.int u5]) n_84 hm (fun l u hu => c_Mod_kindOf hu) rfl (Nat.le_of_ble_eq_true rfl) rfl (Nat.le_of_ble_eq_true rfl) (Nat.le_of_ble_eq_true rfl) (fun _ => rfl) dX12_cell_74 (fun u5 hm => ?_)
            refine j_sub (L' := []) [] rfl ?_
            exact w_Mod_cell_77 C O hm
theorem c_Mod_cell {G : jG} {l : Launch} {v1 : Int32} {v2 : Int32} {v3 : Int32} {h : Hp} {out : (Int32 × Hp)} (hm : s_Mod_cell v1 v2 v3 h = some out) : mt G l yX12_cell cX12_cell 4 (some .int) 179 4679 [.ref (G.1 + 84), .int v1, .int v2, .int v3] h (some (.int out.1)) out.2 :=
  mt_of (by decide) (Nat.le_of_ble_eq_true rfl) _ rfl (fun X I C O => w_Mod_cell C O hm)
noncomputable def s_Mod_count_110 (v1 : Int32) (h : Hp) : Option Int32 :=
  ib (v1 - ((5 : Int32))) 7 <| some (hI h 85 (ix (v1 - ((5 : Int32)))))
noncomputable def s_Mod_count (v1 : Int32) (h : Hp) : Option Int32 :=
  if v1 = 0 then
    ib ((185 : Int32)) 4998 <| some (hI h 86 (ix ((185 : Int32))))
  else if v1 = 1 then
    ib ((186 : Int32)) 4998 <| some (hI h 86 (ix ((186 : Int32))))
  else if v1 = 2 then
    ib ((189 : Int32)) 4998 <| some (hI h 86 (ix ((189 : Int32))))
  else if v1 = 3 then
    ib ((187 : Int32)) 4998 <| some (hI h 86 (ix ((187 : Int32))))
  else if v1 = 4 then
    ib ((188 : Int32)) 4998 <| some (hI h 86 (ix ((188 : Int32))))
  else if v1 = 5 then
    some (hI h 84 10)
  else if v1 = 6 then
    s_Mod_count_110 v1 h
  else if v1 = 7 then
    s_Mod_count_110 v1 h
  else if v1 = 8 then
    ib ((5 : Int32)) 7 <| some (hI h 85 (ix ((5 : Int32))))
  else if v1 = 9 then
    ib ((6 : Int32)) 7 <| some (hI h 85 (ix ((6 : Int32))))
  else if v1 = 10 then
    ib ((190 : Int32)) 4998 <| some (hI h 86 (ix ((190 : Int32))))
  else 
    some ((-1 : Int32))
def O_Mod_count (G : jG) (X : jX) (h : Hp) (out : Int32) : Prop := jO G X (some .int) (some (.int out)) h
theorem w_Mod_count_110 {G : jG} {X : jX} (C : jC G X cX12_count 2 RX12 1 70) {v1 : Int32} {h : Hp} {out : Int32} (O : (O_Mod_count G X h) out) (hm : s_Mod_count_110 v1 h = some out) : J G X 110 [(0, .ref (G.1 + 84)), (1, .int v1)] [] h := by
  unfold s_Mod_count_110 at hm
  refine j_aload_n C 0 dX12_count_110 rfl rfl ?_
  refine j_gS C f_X12_7 n_84 q_84_2 dX12_count_111 ?_
  refine j_iload_n C 1 dX12_count_114 rfl rfl ?_
  refine j_iconst C 5 dX12_count_115 (by decide) ?_
  refine j_isub C dX12_count_116 ?_
  refine j_iald C n_85 hm dX12_count_117 (fun hm => ?_)
  obtain rfl := Option.some.inj hm
  exact j_iret C O dX12_count_118
theorem w_Mod_count {G : jG} {X : jX} (C : jC G X cX12_count 2 RX12 1 70) {v1 : Int32} {h : Hp} {out : Int32} (O : (O_Mod_count G X h) out) (hm : s_Mod_count v1 h = some out) : J G X 0 [(0, .ref (G.1 + 84)), (1, .int v1)] [] h := by
  unfold s_Mod_count at hm
  refine j_iload_n C 1 dX12_count_0 rfl rfl ?_
  rcases if_inv hm with ⟨c1, hm⟩ | ⟨c1, hm⟩
  · refine j_swIn C 0 60 dX12_count_1 c1 (by decide) (by decide) rfl (by decide) ?_
    refine j_aload_n C 0 dX12_count_60 rfl rfl ?_
    refine j_gS C f_X12_20 n_84 q_84_3 dX12_count_61 ?_
    refine j_sipush C 185 dX12_count_64 (by decide) ?_
    refine j_iald C n_86 hm dX12_count_67 (fun hm => ?_)
    obtain rfl := Option.some.inj hm
    exact j_iret C O dX12_count_68
  rcases if_inv hm with ⟨c2, hm⟩ | ⟨c2, hm⟩
  · refine j_swIn C 1 69 dX12_count_1 c2 (by decide) (by decide) rfl (by decide) ?_
    refine j_aload_n C 0 dX12_count_69 rfl rfl ?_
    refine j_gS C f_X12_20 n_84 q_84_3 dX12_count_70 ?_
    refine j_sipush C 186 dX12_count_73 (by decide) ?_
    refine j_iald C n_86 hm dX12_count_76 (fun hm => ?_)
    obtain rfl := Option.some.inj hm
    exact j_iret C O dX12_count_77
  rcases if_inv hm with ⟨c3, hm⟩ | ⟨c3, hm⟩
  · refine j_swIn C 2 78 dX12_count_1 c3 (by decide) (by decide) rfl (by decide) ?_
    refine j_aload_n C 0 dX12_count_78 rfl rfl ?_
    refine j_gS C f_X12_20 n_84 q_84_3 dX12_count_79 ?_
    refine j_sipush C 189 dX12_count_82 (by decide) ?_
    refine j_iald C n_86 hm dX12_count_85 (fun hm => ?_)
    obtain rfl := Option.some.inj hm
    exact j_iret C O dX12_count_86
  rcases if_inv hm with ⟨c4, hm⟩ | ⟨c4, hm⟩
  · refine j_swIn C 3 87 dX12_count_1 c4 (by decide) (by decide) rfl (by decide) ?_
    refine j_aload_n C 0 dX12_count_87 rfl rfl ?_
    refine j_gS C f_X12_20 n_84 q_84_3 dX12_count_88 ?_
    refine j_sipush C 187 dX12_count_91 (by decide) ?_
    refine j_iald C n_86 hm dX12_count_94 (fun hm => ?_)
    obtain rfl := Option.some.inj hm
    exact j_iret C O dX12_count_95
  rcases if_inv hm with ⟨c5, hm⟩ | ⟨c5, hm⟩
  · refine j_swIn C 4 96 dX12_count_1 c5 (by decide) (by decide) rfl (by decide) ?_
    refine j_aload_n C 0 dX12_count_96 rfl rfl ?_
    refine j_gS C f_X12_20 n_84 q_84_3 dX12_count_97 ?_
    refine j_sipush C 188 dX12_count_100 (by decide) ?_
    refine j_iald C n_86 hm dX12_count_103 (fun hm => ?_)
    obtain rfl := Option.some.inj hm
    exact j_iret C O dX12_count_104
  rcases if_inv hm with ⟨c6, hm⟩ | ⟨c6, hm⟩
  · refine j_swIn C 5 105 dX12_count_1 c6 (by decide) (by decide) rfl (by decide) ?_
    refine j_aload_n C 0 dX12_count_105 rfl rfl ?_
    refine j_gI C f_X12_139 n_84 dX12_count_106 ?_
    obtain rfl := Option.some.inj hm
    exact j_iret C O dX12_count_109
  rcases if_inv hm with ⟨c7, hm⟩ | ⟨c7, hm⟩
  · refine j_swIn C 6 110 dX12_count_1 c7 (by decide) (by decide) rfl (by decide) ?_
    refine j_sub (L' := [(0, .ref (G.1 + 84)), (1, .int v1)]) [0, 1] rfl ?_
    exact w_Mod_count_110 C O hm
  rcases if_inv hm with ⟨c8, hm⟩ | ⟨c8, hm⟩
  · refine j_swIn C 7 110 dX12_count_1 c8 (by decide) (by decide) rfl (by decide) ?_
    refine j_sub (L' := [(0, .ref (G.1 + 84)), (1, .int v1)]) [0, 1] rfl ?_
    exact w_Mod_count_110 C O hm
  rcases if_inv hm with ⟨c9, hm⟩ | ⟨c9, hm⟩
  · refine j_swIn C 8 119 dX12_count_1 c9 (by decide) (by decide) rfl (by decide) ?_
    refine j_aload_n C 0 dX12_count_119 rfl rfl ?_
    refine j_gS C f_X12_7 n_84 q_84_2 dX12_count_120 ?_
    refine j_iconst C 5 dX12_count_123 (by decide) ?_
    refine j_iald C n_85 hm dX12_count_124 (fun hm => ?_)
    obtain rfl := Option.some.inj hm
    exact j_iret C O dX12_count_125
  rcases if_inv hm with ⟨c10, hm⟩ | ⟨c10, hm⟩
  · refine j_swIn C 9 126 dX12_count_1 c10 (by decide) (by decide) rfl (by decide) ?_
    refine j_aload_n C 0 dX12_count_126 rfl rfl ?_
    refine j_gS C f_X12_7 n_84 q_84_2 dX12_count_127 ?_
    refine j_bipush C 6 dX12_count_130 (by decide) ?_
    refine j_iald C n_85 hm dX12_count_132 (fun hm => ?_)
    obtain rfl := Option.some.inj hm
    exact j_iret C O dX12_count_133
  rcases if_inv hm with ⟨c11, hm⟩ | ⟨c11, hm⟩
  · refine j_swIn C 10 134 dX12_count_1 c11 (by decide) (by decide) rfl (by decide) ?_
    refine j_aload_n C 0 dX12_count_134 rfl rfl ?_
    refine j_gS C f_X12_20 n_84 q_84_3 dX12_count_135 ?_
    refine j_sipush C 190 dX12_count_138 (by decide) ?_
    refine j_iald C n_86 hm dX12_count_141 (fun hm => ?_)
    obtain rfl := Option.some.inj hm
    exact j_iret C O dX12_count_142
  refine j_tableOut C 143 dX12_count_1 (by have e0 := sw_ne (n := 0) c1 (by decide); have e1 := sw_ne (n := 1) c2 (by decide); have e2 := sw_ne (n := 2) c3 (by decide); have e3 := sw_ne (n := 3) c4 (by decide); have e4 := sw_ne (n := 4) c5 (by decide); have e5 := sw_ne (n := 5) c6 (by decide); have e6 := sw_ne (n := 6) c7 (by decide); have e7 := sw_ne (n := 7) c8 (by decide); have e8 := sw_ne (n := 8) c9 (by decide); have e9 := sw_ne (n := 9) c10 (by decide); have e10 := sw_ne (n := 10) c11 (by decide); omega) (by decide) ?_
  refine j_iconst C (-1 : Int32) dX12_count_143 (by decide) ?_
  obtain rfl := Option.some.inj hm
  exact j_iret C O dX12_count_144
theorem c_Mod_count {G : jG} {l : Launch} {v1 : Int32} {h : Hp} {out : Int32} (hm : s_Mod_count v1 h = some out) : mt G l yX12_count cX12_count 2 (some .int) 1 70 [.ref (G.1 + 84), .int v1] h (some (.int out)) h :=
  mt_of (by decide) (Nat.le_of_ble_eq_true rfl) _ rfl (fun X I C O => w_Mod_count C O hm)
noncomputable def s_Mod_slackAt_81 (v1 : Nat) (v2 : Int32) (v4 : Int32) (s0 : Int32) (s1 : Int32) (h : Hp) : Option ((Nat × Int32 × Int32 × Int32) ⊕ Int32) :=
  some (.inl (v1, v2, (s1 + s0), (v4 + (1 : Int32))))
noncomputable def s_Mod_slackAt_70 (v1 : Nat) (v2 : Int32) (v3 : Int32) (v4 : Int32) (v5 : Int32) (h : Hp) : Option ((Nat × Int32 × Int32 × Int32) ⊕ Int32) :=
  if v5 = 0 then
    s_Mod_slackAt_81 v1 v2 v4 ((0 : Int32)) v3 h
  else
    s_Mod_slackAt_81 v1 v2 v4 ((1 : Int32)) v3 h
noncomputable def s_Mod_slackAt_55 (v1 : Nat) (v2 : Int32) (v3 : Int32) (v4 : Int32) (s0 : Int32) (h : Hp) : Option ((Nat × Int32 × Int32 × Int32) ⊕ Int32) :=
  if s0 = 0 then
    s_Mod_slackAt_70 v1 v2 v3 v4 s0 h
  else
    if v3 = v2 then
      some (.inr (v4))
    else
      s_Mod_slackAt_70 v1 v2 v3 v4 s0 h
noncomputable def s_Mod_slackAt_50 (v1 : Nat) (v2 : Int32) (v3 : Int32) (v4 : Int32) (h : Hp) : Option ((Nat × Int32 × Int32 × Int32) ⊕ Int32) :=
  s_Mod_slackAt_55 v1 v2 v3 v4 ((1 : Int32)) h
noncomputable def s_Mod_slackAt_54 (v1 : Nat) (v2 : Int32) (v3 : Int32) (v4 : Int32) (h : Hp) : Option ((Nat × Int32 × Int32 × Int32) ⊕ Int32) :=
  s_Mod_slackAt_55 v1 v2 v3 v4 ((0 : Int32)) h
noncomputable def s_Mod_slackAt_5 (v1 : Nat) (v2 : Int32) (v3 : Int32) (v4 : Int32) (h : Hp) : Option ((Nat × Int32 × Int32 × Int32) ⊕ Int32) :=
  if ((1440 : Int32)) ≤ v4 then
    some (.inr (((-1 : Int32)) - v3))
  else
    ak h v1 0 <| ib v4 (ln h v1) <| (s_Mod_size (hI h v1 (ix v4)) h).bind fun u2 => (s_Mod_term ((3 : Int32)) h).bind fun u3 => if u3 < u2 then
      s_Mod_slackAt_54 v1 v2 v3 v4 h
    else
      if v4 = 0 then
        s_Mod_slackAt_50 v1 v2 v3 v4 h
      else
        ak h v1 0 <| ib (v4 - ((1 : Int32))) (ln h v1) <| (s_Mod_size (hI h v1 (ix (v4 - ((1 : Int32))))) h).bind fun u5 => (s_Mod_term ((3 : Int32)) h).bind fun u6 => if u5 ≤ u6 then
          s_Mod_slackAt_54 v1 v2 v3 v4 h
        else
          s_Mod_slackAt_50 v1 v2 v3 v4 h
noncomputable def s_Mod_slackAt (v1 : Nat) (v2 : Int32) (h : Hp) : Option Int32 :=
  lp (fun q => s_Mod_slackAt_5 q.1 q.2.1 q.2.2.1 q.2.2.2 h) (v1, v2, ((0 : Int32)), ((0 : Int32)))
def O_Mod_slackAt (G : jG) (X : jX) (h : Hp) (out : Int32) : Prop := jO G X (some .int) (some (.int out)) h
def P_Mod_slackAt_5 (G : jG) (X : jX) (h : Hp) (q : Nat × Int32 × Int32 × Int32) : Prop := J G X 5 [(0, .ref (G.1 + 84)), (1, .ref (G.1 + q.1)), (2, .int q.2.1), (3, .int q.2.2.1), (4, .int q.2.2.2)] [] h
def O_Mod_slackAt_5 (G : jG) (X : jX) (h : Hp) (t : ((Nat × Int32 × Int32 × Int32) ⊕ Int32)) : Prop := Sum.elim (P_Mod_slackAt_5 G X h) (O_Mod_slackAt G X h) t
theorem w_Mod_slackAt_81 {G : jG} {X : jX} (C : jC G X cX12_slackAt 6 RX12 2 91) {v1 : Nat} {v2 : Int32} {v4 : Int32} {s0 : Int32} {s1 : Int32} {h : Hp} {out : ((Nat × Int32 × Int32 × Int32) ⊕ Int32)} (O : (O_Mod_slackAt_5 G X h) out) (hm : s_Mod_slackAt_81 v1 v2 v4 s0 s1 h = some out) : J G X 81 [(0, .ref (G.1 + 84)), (1, .ref (G.1 + v1)), (2, .int v2), (4, .int v4)] [.int s0, .int s1] h := by
  unfold s_Mod_slackAt_81 at hm
  refine j_iadd C dX12_slackAt_81 ?_
  refine j_istore_n C [(3, .int (s1 + s0)), (0, .ref (G.1 + 84)), (1, .ref (G.1 + v1)), (2, .int v2), (4, .int v4)] dX12_slackAt_82 rfl (by decide) rfl ?_
  refine j_iinc C 4 [(4, .int (v4 + (1 : Int32))), (3, .int (s1 + s0)), (0, .ref (G.1 + 84)), (1, .ref (G.1 + v1)), (2, .int v2)] dX12_slackAt_83 rfl (add_lit (by decide)) (by decide) rfl ?_
  refine j_goto C 5 dX12_slackAt_86 (by decide) ?_
  obtain rfl := Option.some.inj hm
  refine j_sub (L' := [(0, .ref (G.1 + 84)), (1, .ref (G.1 + v1)), (2, .int v2), (3, .int (s1 + s0)), (4, .int (v4 + (1 : Int32)))]) [2, 3, 4, 1, 0] rfl ?_
  exact O
theorem w_Mod_slackAt_70 {G : jG} {X : jX} (C : jC G X cX12_slackAt 6 RX12 2 91) {v1 : Nat} {v2 : Int32} {v3 : Int32} {v4 : Int32} {v5 : Int32} {h : Hp} {out : ((Nat × Int32 × Int32 × Int32) ⊕ Int32)} (O : (O_Mod_slackAt_5 G X h) out) (hm : s_Mod_slackAt_70 v1 v2 v3 v4 v5 h = some out) : J G X 70 [(0, .ref (G.1 + 84)), (1, .ref (G.1 + v1)), (2, .int v2), (3, .int v3), (4, .int v4), (5, .int v5)] [] h := by
  unfold s_Mod_slackAt_70 at hm
  refine j_iload_n C 3 dX12_slackAt_70 rfl rfl ?_
  refine j_iload C 5 dX12_slackAt_71 rfl ?_
  refine j_ifeq C 80 dX12_slackAt_73 (by decide) hm (fun hm => ?_) (fun hm => ?_)
  · refine j_iconst C 0 dX12_slackAt_80 (by decide) ?_
    refine j_sub (L' := [(0, .ref (G.1 + 84)), (1, .ref (G.1 + v1)), (2, .int v2), (4, .int v4)]) [0, 1, 2, 4] rfl ?_
    exact w_Mod_slackAt_81 C O hm
  · refine j_iconst C 1 dX12_slackAt_76 (by decide) ?_
    refine j_goto C 81 dX12_slackAt_77 (by decide) ?_
    refine j_sub (L' := [(0, .ref (G.1 + 84)), (1, .ref (G.1 + v1)), (2, .int v2), (4, .int v4)]) [0, 1, 2, 4] rfl ?_
    exact w_Mod_slackAt_81 C O hm
theorem w_Mod_slackAt_55 {G : jG} {X : jX} (C : jC G X cX12_slackAt 6 RX12 2 91) {v1 : Nat} {v2 : Int32} {v3 : Int32} {v4 : Int32} {s0 : Int32} {h : Hp} {out : ((Nat × Int32 × Int32 × Int32) ⊕ Int32)} (O : (O_Mod_slackAt_5 G X h) out) (hm : s_Mod_slackAt_55 v1 v2 v3 v4 s0 h = some out) : J G X 55 [(0, .ref (G.1 + 84)), (1, .ref (G.1 + v1)), (2, .int v2), (3, .int v3), (4, .int v4)] [.int s0] h := by
  unfold s_Mod_slackAt_55 at hm
  refine j_istore C [(5, .int s0), (0, .ref (G.1 + 84)), (1, .ref (G.1 + v1)), (2, .int v2), (3, .int v3), (4, .int v4)] dX12_slackAt_55 (by decide) rfl ?_
  refine j_iload C 0 dX12_slackAt_57 rfl ?_
  refine j_ifeq C 70 dX12_slackAt_59 (by decide) hm (fun hm => ?_) (fun hm => ?_)
  · refine j_sub (L' := [(0, .ref (G.1 + 84)), (1, .ref (G.1 + v1)), (2, .int v2), (3, .int v3), (4, .int v4), (5, .int s0)]) [1, 2, 3, 4, 5, 0] rfl ?_
    exact w_Mod_slackAt_70 C O hm
  · refine j_iload_n C 4 dX12_slackAt_62 rfl rfl ?_
    refine j_iload_n C 3 dX12_slackAt_63 rfl rfl ?_
    refine j_if_icmpne C 70 dX12_slackAt_64 (by decide) hm (fun hm => ?_) (fun hm => ?_)
    · refine j_iload C 5 dX12_slackAt_67 rfl ?_
      obtain rfl := Option.some.inj hm
      exact j_iret C O dX12_slackAt_69
    · refine j_sub (L' := [(0, .ref (G.1 + 84)), (1, .ref (G.1 + v1)), (2, .int v2), (3, .int v3), (4, .int v4), (5, .int s0)]) [1, 2, 3, 4, 5, 0] rfl ?_
      exact w_Mod_slackAt_70 C O hm
theorem w_Mod_slackAt_50 {G : jG} {X : jX} (C : jC G X cX12_slackAt 6 RX12 2 91) {v1 : Nat} {v2 : Int32} {v3 : Int32} {v4 : Int32} {h : Hp} {out : ((Nat × Int32 × Int32 × Int32) ⊕ Int32)} (O : (O_Mod_slackAt_5 G X h) out) (hm : s_Mod_slackAt_50 v1 v2 v3 v4 h = some out) : J G X 50 [(0, .ref (G.1 + 84)), (1, .ref (G.1 + v1)), (2, .int v2), (3, .int v3), (4, .int v4)] [] h := by
  unfold s_Mod_slackAt_50 at hm
  refine j_iconst C 1 dX12_slackAt_50 (by decide) ?_
  refine j_goto C 55 dX12_slackAt_51 (by decide) ?_
  refine j_sub (L' := [(0, .ref (G.1 + 84)), (1, .ref (G.1 + v1)), (2, .int v2), (3, .int v3), (4, .int v4)]) [0, 1, 2, 3, 4] rfl ?_
  exact w_Mod_slackAt_55 C O hm
theorem w_Mod_slackAt_54 {G : jG} {X : jX} (C : jC G X cX12_slackAt 6 RX12 2 91) {v1 : Nat} {v2 : Int32} {v3 : Int32} {v4 : Int32} {h : Hp} {out : ((Nat × Int32 × Int32 × Int32) ⊕ Int32)} (O : (O_Mod_slackAt_5 G X h) out) (hm : s_Mod_slackAt_54 v1 v2 v3 v4 h = some out) : J G X 54 [(0, .ref (G.1 + 84)), (1, .ref (G.1 + v1)), (2, .int v2), (3, .int v3), (4, .int v4)] [] h := by
  unfold s_Mod_slackAt_54 at hm
  refine j_iconst C 0 dX12_slackAt_54 (by decide) ?_
  refine j_sub (L' := [(0, .ref (G.1 + 84)), (1, .ref (G.1 + v1)), (2, .int v2), (3, .int v3), (4, .int v4)]) [0, 1, 2, 3, 4] rfl ?_
  exact w_Mod_slackAt_55 C O hm
theorem w_Mod_slackAt_5 {G : jG} {X : jX} (C : jC G X cX12_slackAt 6 RX12 2 91) {v1 : Nat} {v2 : Int32} {v3 : Int32} {v4 : Int32} {h : Hp} {out : ((Nat × Int32 × Int32 × Int32) ⊕ Int32)} (O : (O_Mod_slackAt_5 G X h) out) (hm : s_Mod_slackAt_5 v1 v2 v3 v4 h = some out) : J G X 5 [(0, .ref (G.1 + 84)), (1, .ref (G.1 + v1)), (2, .int v2), (3, .int v3), (4, .int v4)] [] h := by
  unfold s_Mod_slackAt_5 at hm
  refine j_iload C 4 dX12_slackAt_5 rfl ?_
  refine j_sipush C 1440 dX12_slackAt_7 (by decide) ?_
  refine j_if_icmpge C 89 dX12_slackAt_10 (by decide) hm (fun hm => ?_) (fun hm => ?_)
  · refine j_iconst C (-1 : Int32) dX12_slackAt_89 (by decide) ?_
    refine j_iload_n C 3 dX12_slackAt_90 rfl rfl ?_
    refine j_isub C dX12_slackAt_91 ?_
    obtain rfl := Option.some.inj hm
    exact j_iret C O dX12_slackAt_92
  · refine j_aload_n C 1 dX12_slackAt_13 rfl rfl ?_
    refine j_iload C 4 dX12_slackAt_14 rfl ?_
    obtain ⟨c1, hm⟩ := ak_inv hm
    refine j_iald C c1 hm dX12_slackAt_16 (fun hm => ?_)
    refine j_cS C l_X12_304 [.int (hI h v1 (ix v4))] [] (fun u2 => some (.int u2)) (fun _ => h) (fun u2 => [.int u2]) hm (fun l u hu => c_Mod_size hu) rfl (Nat.le_of_ble_eq_true rfl) rfl (Nat.le_of_ble_eq_true rfl) (Nat.le_of_ble_eq_true rfl) (fun _ => rfl) dX12_slackAt_17 (fun u2 hm => ?_)
    refine j_aload_n C 0 dX12_slackAt_20 rfl rfl ?_
    refine j_iconst C 3 dX12_slackAt_21 (by decide) ?_
    refine j_cV C l_X12_283 [.int ((3 : Int32))] [.int u2] (fun u3 => some (.int u3)) (fun _ => h) (fun u3 => [.int u3, .int u2]) n_84 hm (fun l u hu => c_Mod_term hu) rfl (Nat.le_of_ble_eq_true rfl) rfl (Nat.le_of_ble_eq_true rfl) (Nat.le_of_ble_eq_true rfl) (fun _ => rfl) dX12_slackAt_22 (fun u3 hm => ?_)
    refine j_if_icmpgt C 54 dX12_slackAt_25 (by decide) hm (fun hm => ?_) (fun hm => ?_)
    · refine j_sub (L' := [(0, .ref (G.1 + 84)), (1, .ref (G.1 + v1)), (2, .int v2), (3, .int v3), (4, .int v4)]) [0, 1, 2, 3, 4] rfl ?_
      exact w_Mod_slackAt_54 C O hm
    · refine j_iload C 4 dX12_slackAt_28 rfl ?_
      refine j_ifeq C 50 dX12_slackAt_30 (by decide) hm (fun hm => ?_) (fun hm => ?_)
      · refine j_sub (L' := [(0, .ref (G.1 + 84)), (1, .ref (G.1 + v1)), (2, .int v2), (3, .int v3), (4, .int v4)]) [0, 1, 2, 3, 4] rfl ?_
        exact w_Mod_slackAt_50 C O hm
      · refine j_aload_n C 1 dX12_slackAt_33 rfl rfl ?_
        refine j_iload C 4 dX12_slackAt_34 rfl ?_
        refine j_iconst C 1 dX12_slackAt_36 (by decide) ?_
        refine j_isub C dX12_slackAt_37 ?_
        obtain ⟨c4, hm⟩ := ak_inv hm
        refine j_iald C c4 hm dX12_slackAt_38 (fun hm => ?_)
        refine j_cS C l_X12_304 [.int (hI h v1 (ix (v4 - ((1 : Int32)))))] [] (fun u5 => some (.int u5)) (fun _ => h) (fun u5 => [.int u5]) hm (fun l u hu => c_Mod_size hu) rfl (Nat.le_of_ble_eq_true rfl) rfl (Nat.le_of_ble_eq_true rfl) (Nat.le_of_ble_eq_true rfl) (fun _ => rfl) dX12_slackAt_39 (fun u5 hm => ?_)
        refine j_aload_n C 0 dX12_slackAt_42 rfl rfl ?_
        refine j_iconst C 3 dX12_slackAt_43 (by decide) ?_
        refine j_cV C l_X12_283 [.int ((3 : Int32))] [.int u5] (fun u6 => some (.int u6)) (fun _ => h) (fun u6 => [.int u6, .int u5]) n_84 hm (fun l u hu => c_Mod_term hu) rfl (Nat.le_of_ble_eq_true rfl) rfl (Nat.le_of_ble_eq_true rfl) (Nat.le_of_ble_eq_true rfl) (fun _ => rfl) dX12_slackAt_44 (fun u6 hm => ?_)
        refine j_if_icmple C 54 dX12_slackAt_47 (by decide) hm (fun hm => ?_) (fun hm => ?_)
        · refine j_sub (L' := [(0, .ref (G.1 + 84)), (1, .ref (G.1 + v1)), (2, .int v2), (3, .int v3), (4, .int v4)]) [0, 1, 2, 3, 4] rfl ?_
          exact w_Mod_slackAt_54 C O hm
        · refine j_sub (L' := [(0, .ref (G.1 + 84)), (1, .ref (G.1 + v1)), (2, .int v2), (3, .int v3), (4, .int v4)]) [0, 1, 2, 3, 4] rfl ?_
          exact w_Mod_slackAt_50 C O hm
theorem k_Mod_slackAt_5 {G : jG} {X : jX} (C : jC G X cX12_slackAt 6 RX12 2 91) {v1 : Nat} {v2 : Int32} {v3 : Int32} {v4 : Int32} {h : Hp} {out : Int32} (O : (O_Mod_slackAt G X h) out) (hm : lp (fun q => s_Mod_slackAt_5 q.1 q.2.1 q.2.2.1 q.2.2.2 h) (v1, v2, v3, v4) = some out) : J G X 5 [(0, .ref (G.1 + 84)), (1, .ref (G.1 + v1)), (2, .int v2), (3, .int v3), (4, .int v4)] [] h :=
  lp_ok (P := P_Mod_slackAt_5 G X h) (O := (O_Mod_slackAt G X h)) (fun q r hm O => w_Mod_slackAt_5 C O hm) hm O
theorem w_Mod_slackAt {G : jG} {X : jX} (C : jC G X cX12_slackAt 6 RX12 2 91) {v1 : Nat} {v2 : Int32} {h : Hp} {out : Int32} (O : (O_Mod_slackAt G X h) out) (hm : s_Mod_slackAt v1 v2 h = some out) : J G X 0 [(0, .ref (G.1 + 84)), (1, .ref (G.1 + v1)), (2, .int v2)] [] h := by
  unfold s_Mod_slackAt at hm
  refine j_iconst C 0 dX12_slackAt_0 (by decide) ?_
  refine j_istore_n C [(3, .int ((0 : Int32))), (0, .ref (G.1 + 84)), (1, .ref (G.1 + v1)), (2, .int v2)] dX12_slackAt_1 rfl (by decide) rfl ?_
  refine j_iconst C 0 dX12_slackAt_2 (by decide) ?_
  refine j_istore C [(4, .int ((0 : Int32))), (3, .int ((0 : Int32))), (0, .ref (G.1 + 84)), (1, .ref (G.1 + v1)), (2, .int v2)] dX12_slackAt_3 (by decide) rfl ?_
  refine j_sub (L' := [(0, .ref (G.1 + 84)), (1, .ref (G.1 + v1)), (2, .int v2), (3, .int ((0 : Int32))), (4, .int ((0 : Int32)))]) [2, 3, 4, 1, 0] rfl ?_
  exact k_Mod_slackAt_5 C O hm
theorem c_Mod_slackAt {G : jG} {l : Launch} {v1 : Nat} {v2 : Int32} {h : Hp} {out : Int32} (hm : s_Mod_slackAt v1 v2 h = some out) : mt G l yX12_slackAt cX12_slackAt 6 (some .int) 2 91 [.ref (G.1 + 84), .ref (G.1 + v1), .int v2] h (some (.int out)) h :=
  mt_of (by decide) (Nat.le_of_ble_eq_true rfl) _ rfl (fun X I C O => w_Mod_slackAt C O hm)
noncomputable def s_Mod_day_20 (v2 : Int32) (v3 : Int32) (h : Hp) : Option ((Int32 × Int32 × Hp) ⊕ (Int32 × Hp)) :=
  if ((24 : Int32)) ≤ v3 then
    (s_Mod_term ((10 : Int32)) h).bind fun u1 => (s_Mod_flows 113 u1 ((0 : Int32)) h).bind fun u2 => lt (sI u2 84 51 ((1 : Int32))) fun h3 => (s_Mod_slackAt 113 ((-1 : Int32)) h3).bind fun u4 => (s_Mod_good (((-1 : Int32)) - u4) h3).bind fun u5 => some (.inr (u5.1, u5.2))
  else
    lt (Int64.toInt32 (z_lrem ((((1103 : Int64)) * (Int32.toInt64 v2)) + ((12345 : Int64))) ((1000003 : Int64)))) fun x6 => ib v3 24 <| some (.inl (x6, (v3 + (1 : Int32)), (sI h 96 (ix v3) ((z_rem x6 ((41 : Int32))) - ((20 : Int32))))))
noncomputable def s_Mod_day (v1 : Int32) (h : Hp) : Option (Int32 × Hp) :=
  (s_Mod_lies v1 ((0 : Int32)) ((1000000 : Int32)) h).bind fun u1 => if u1 = 0 then
    (s_Mod_refuses ((-1 : Int32)) h).bind fun u2 => some (u2.1, u2.2)
  else
    lp (fun q => s_Mod_day_20 q.1 q.2.1 q.2.2) (v1, ((0 : Int32)), h)
def O_Mod_day (G : jG) (X : jX) (out : (Int32 × Hp)) : Prop := jO G X (some .int) (some (.int out.1)) out.2
def P_Mod_day_20 (G : jG) (X : jX) (q : Int32 × Int32 × Hp) : Prop := J G X 20 [(0, .ref (G.1 + 84)), (2, .int q.1), (3, .int q.2.1)] [] q.2.2
def O_Mod_day_20 (G : jG) (X : jX) (t : ((Int32 × Int32 × Hp) ⊕ (Int32 × Hp))) : Prop := Sum.elim (P_Mod_day_20 G X) (O_Mod_day G X) t
theorem w_Mod_day_20 {G : jG} {X : jX} (C : jC G X cX12_day 4 RX12 178 4659) {v2 : Int32} {v3 : Int32} {h : Hp} {out : ((Int32 × Int32 × Hp) ⊕ (Int32 × Hp))} (O : (O_Mod_day_20 G X) out) (hm : s_Mod_day_20 v2 v3 h = some out) : J G X 20 [(0, .ref (G.1 + 84)), (2, .int v2), (3, .int v3)] [] h := by
  unfold s_Mod_day_20 at hm
  refine j_iload_n C 2 dX12_day_20 rfl rfl ?_
  refine j_bipush C 24 dX12_day_21 (by decide) ?_
  refine j_if_icmpge C 61 dX12_day_23 (by decide) hm (fun hm => ?_) (fun hm => ?_)
  · refine j_aload_n C 0 dX12_day_61 rfl rfl ?_
    refine j_aload_n C 0 dX12_day_62 rfl rfl ?_
    refine j_gS C f_X12_110 n_84 q_84_50 dX12_day_63 ?_
    refine j_aload_n C 0 dX12_day_66 rfl rfl ?_
    refine j_bipush C 10 dX12_day_67 (by decide) ?_
    refine j_cV C l_X12_283 [.int ((10 : Int32))] [.ref (G.1 + 113), .ref (G.1 + 84)] (fun u1 => some (.int u1)) (fun _ => h) (fun u1 => [.int u1, .ref (G.1 + 113), .ref (G.1 + 84)]) n_84 hm (fun l u hu => c_Mod_term hu) rfl (Nat.le_of_ble_eq_true rfl) rfl (Nat.le_of_ble_eq_true rfl) (Nat.le_of_ble_eq_true rfl) (fun _ => rfl) dX12_day_69 (fun u1 hm => ?_)
    refine j_iconst C 0 dX12_day_72 (by decide) ?_
    refine j_cV C l_X12_314 [.ref (G.1 + 113), .int u1, .int ((0 : Int32))] [] (fun _ => none) (fun u2 => u2) (fun u2 => []) n_84 hm (fun l u hu => c_Mod_flows hu) rfl (Nat.le_of_ble_eq_true rfl) rfl (Nat.le_of_ble_eq_true rfl) (Nat.le_of_ble_eq_true rfl) (fun _ => rfl) dX12_day_73 (fun u2 hm => ?_)
    refine j_aload_n C 0 dX12_day_76 rfl rfl ?_
    refine j_iconst C 1 dX12_day_77 (by decide) ?_
    refine j_pZ C f_X12_446 n_84 (by decide) dX12_day_78 ?_
    refine j_aload_n C 0 dX12_day_81 rfl rfl ?_
    refine j_iconst C (-1 : Int32) dX12_day_82 (by decide) ?_
    refine j_aload_n C 0 dX12_day_83 rfl rfl ?_
    refine j_aload_n C 0 dX12_day_84 rfl rfl ?_
    refine j_nmH hm (fun h3 hm => ?_)
    refine j_gS C f_X12_110 n_84 q_84_50 dX12_day_85 ?_
    refine j_iconst C (-1 : Int32) dX12_day_88 (by decide) ?_
    refine j_cV C l_X12_324 [.ref (G.1 + 113), .int ((-1 : Int32))] [.int ((-1 : Int32)), .ref (G.1 + 84)] (fun u4 => some (.int u4)) (fun _ => h3) (fun u4 => [.int u4, .int ((-1 : Int32)), .ref (G.1 + 84)]) n_84 hm (fun l u hu => c_Mod_slackAt hu) rfl (Nat.le_of_ble_eq_true rfl) rfl (Nat.le_of_ble_eq_true rfl) (Nat.le_of_ble_eq_true rfl) (fun _ => rfl) dX12_day_89 (fun u4 hm => ?_)
    refine j_isub C dX12_day_92 ?_
    refine j_cV C l_X12_121 [.int (((-1 : Int32)) - u4)] [] (fun u5 => some (.int u5.1)) (fun u5 => u5.2) (fun u5 => [.int u5.1]) n_84 hm (fun l u hu => c_Mod_good hu) rfl (Nat.le_of_ble_eq_true rfl) rfl (Nat.le_of_ble_eq_true rfl) (Nat.le_of_ble_eq_true rfl) (fun _ => rfl) dX12_day_93 (fun u5 hm => ?_)
    obtain rfl := Option.some.inj hm
    exact j_iret C O dX12_day_96
  · refine j_ldc2 C wd_1934 dX12_day_26 ?_
    refine j_iload_n C 1 dX12_day_29 rfl rfl ?_
    refine j_i2l C dX12_day_30 ?_
    refine j_lmul C dX12_day_31 ?_
    refine j_ldc2 C wd_1935 dX12_day_32 ?_
    refine j_ladd C dX12_day_35 ?_
    refine j_ldc2 C wd_1936 dX12_day_36 ?_
    refine j_lrem C dX12_day_39 (by decide) ?_
    refine j_l2i C dX12_day_40 ?_
    refine j_nmI hm (fun x6 hm => ?_)
    refine j_istore_n C [(2, .int x6), (0, .ref (G.1 + 84)), (3, .int v3)] dX12_day_41 rfl (by decide) rfl ?_
    refine j_aload_n C 1 dX12_day_42 rfl rfl ?_
    refine j_gS C f_X12_55 n_84 q_84_25 dX12_day_43 ?_
    refine j_iload_n C 2 dX12_day_46 rfl rfl ?_
    refine j_iload_n C 0 dX12_day_47 rfl rfl ?_
    refine j_bipush C 41 dX12_day_48 (by decide) ?_
    refine j_irem C dX12_day_50 (by decide) ?_
    refine j_bipush C 20 dX12_day_51 (by decide) ?_
    refine j_isub C dX12_day_53 ?_
    refine j_iast C n_96 hm dX12_day_54 (fun hm => ?_)
    refine j_iinc C 2 [(3, .int (v3 + (1 : Int32))), (2, .int x6), (0, .ref (G.1 + 84))] dX12_day_55 rfl (add_lit (by decide)) (by decide) rfl ?_
    refine j_goto C 20 dX12_day_58 (by decide) ?_
    obtain rfl := Option.some.inj hm
    refine j_sub (L' := [(0, .ref (G.1 + 84)), (2, .int x6), (3, .int (v3 + (1 : Int32)))]) [2, 1, 0] rfl ?_
    exact O
theorem k_Mod_day_20 {G : jG} {X : jX} (C : jC G X cX12_day 4 RX12 178 4659) {v2 : Int32} {v3 : Int32} {h : Hp} {out : (Int32 × Hp)} (O : (O_Mod_day G X) out) (hm : lp (fun q => s_Mod_day_20 q.1 q.2.1 q.2.2) (v2, v3, h) = some out) : J G X 20 [(0, .ref (G.1 + 84)), (2, .int v2), (3, .int v3)] [] h :=
  lp_ok (P := P_Mod_day_20 G X) (O := (O_Mod_day G X)) (fun q r hm O => w_Mod_day_20 C O hm) hm O
theorem w_Mod_day {G : jG} {X : jX} (C : jC G X cX12_day 4 RX12 178 4659) {v1 : Int32} {h : Hp} {out : (Int32 × Hp)} (O : (O_Mod_day G X) out) (hm : s_Mod_day v1 h = some out) : J G X 0 [(0, .ref (G.1 + 84)), (1, .int v1)] [] h := by
  unfold s_Mod_day at hm
  refine j_iload_n C 1 dX12_day_0 rfl rfl ?_
  refine j_iconst C 0 dX12_day_1 (by decide) ?_
  refine j_ldc C wd_1564 dX12_day_2 ?_
  refine j_cS C l_X12_113 [.int v1, .int ((0 : Int32)), .int ((1000000 : Int32))] [] (fun u1 => some (.int u1)) (fun _ => h) (fun u1 => [.int u1]) hm (fun l u hu => c_Mod_lies hu) rfl (Nat.le_of_ble_eq_true rfl) rfl (Nat.le_of_ble_eq_true rfl) (Nat.le_of_ble_eq_true rfl) (fun _ => rfl) dX12_day_4 (fun u1 hm => ?_)
  refine j_ifne C 16 dX12_day_7 (by decide) hm (fun hm => ?_) (fun hm => ?_)
  · refine j_aload_n C 0 dX12_day_10 rfl rfl ?_
    refine j_iconst C (-1 : Int32) dX12_day_11 (by decide) ?_
    refine j_cV C l_X12_117 [.int ((-1 : Int32))] [] (fun u2 => some (.int u2.1)) (fun u2 => u2.2) (fun u2 => [.int u2.1]) n_84 hm (fun l u hu => c_Mod_refuses hu) rfl (Nat.le_of_ble_eq_true rfl) rfl (Nat.le_of_ble_eq_true rfl) (Nat.le_of_ble_eq_true rfl) (fun _ => rfl) dX12_day_12 (fun u2 hm => ?_)
    obtain rfl := Option.some.inj hm
    exact j_iret C O dX12_day_15
  · refine j_iload_n C 1 dX12_day_16 rfl rfl ?_
    refine j_istore_n C [(2, .int v1), (0, .ref (G.1 + 84)), (1, .int v1)] dX12_day_17 rfl (by decide) rfl ?_
    refine j_iconst C 0 dX12_day_18 (by decide) ?_
    refine j_istore_n C [(3, .int ((0 : Int32))), (2, .int v1), (0, .ref (G.1 + 84)), (1, .int v1)] dX12_day_19 rfl (by decide) rfl ?_
    refine j_sub (L' := [(0, .ref (G.1 + 84)), (2, .int v1), (3, .int ((0 : Int32)))]) [2, 1, 0] rfl ?_
    exact k_Mod_day_20 C O hm
theorem c_Mod_day {G : jG} {l : Launch} {v1 : Int32} {h : Hp} {out : (Int32 × Hp)} (hm : s_Mod_day v1 h = some out) : mt G l yX12_day cX12_day 4 (some .int) 178 4659 [.ref (G.1 + 84), .int v1] h (some (.int out.1)) out.2 :=
  mt_of (by decide) (Nat.le_of_ble_eq_true rfl) _ rfl (fun X I C O => w_Mod_day C O hm)
noncomputable def s_Mod_doneOf_23 (v1 : Int32) (v2 : Int32) (v4 : Int32) (v5 : Int32) (v6 : Int32) (h : Hp) : Option ((Int32 × Int32 × Int32 × Int32 × Int32) ⊕ Int32) :=
  ib ((187 : Int32)) 4998 <| if (hI h 86 (ix ((187 : Int32)))) ≤ v6 then
    ib ((187 : Int32)) 4998 <| some (.inr (hI h 86 (ix ((187 : Int32)))))
  else
    ib (((121 : Int32)) + v6) 4998 <| (s_Mod_behind v1 v5 (v2 + v6) (hI h 86 (ix (((121 : Int32)) + v6))) v4 h).bind fun u1 => if u1 = ((-1 : Int32)) then
      some (.inr (v6))
    else
      some (.inl (v1, v2, v4, u1, (v6 + (1 : Int32))))
noncomputable def s_Mod_doneOf (v1 : Int32) (v2 : Int32) (v3 : Int32) (v4 : Int32) (h : Hp) : Option Int32 :=
  (s_Mod_minuteOf v2 v4 h).bind fun u1 => (s_Mod_canBe v1 v3 u1 h).bind fun u2 => if u2 = 0 then
    some ((-1 : Int32))
  else
    lp (fun q => s_Mod_doneOf_23 q.1 q.2.1 q.2.2.1 q.2.2.2.1 q.2.2.2.2 h) (v1, v2, v4, v3, ((0 : Int32)))
def O_Mod_doneOf (G : jG) (X : jX) (h : Hp) (out : Int32) : Prop := jO G X (some .int) (some (.int out)) h
def P_Mod_doneOf_23 (G : jG) (X : jX) (h : Hp) (q : Int32 × Int32 × Int32 × Int32 × Int32) : Prop := J G X 23 [(0, .ref (G.1 + 84)), (1, .int q.1), (2, .int q.2.1), (4, .int q.2.2.1), (5, .int q.2.2.2.1), (6, .int q.2.2.2.2)] [] h
def O_Mod_doneOf_23 (G : jG) (X : jX) (h : Hp) (t : ((Int32 × Int32 × Int32 × Int32 × Int32) ⊕ Int32)) : Prop := Sum.elim (P_Mod_doneOf_23 G X h) (O_Mod_doneOf G X h) t
theorem w_Mod_doneOf_23 {G : jG} {X : jX} (C : jC G X cX12_doneOf 7 RX12 4 143) {v1 : Int32} {v2 : Int32} {v4 : Int32} {v5 : Int32} {v6 : Int32} {h : Hp} {out : ((Int32 × Int32 × Int32 × Int32 × Int32) ⊕ Int32)} (O : (O_Mod_doneOf_23 G X h) out) (hm : s_Mod_doneOf_23 v1 v2 v4 v5 v6 h = some out) : J G X 23 [(0, .ref (G.1 + 84)), (1, .int v1), (2, .int v2), (4, .int v4), (5, .int v5), (6, .int v6)] [] h := by
  unfold s_Mod_doneOf_23 at hm
  refine j_iload C 5 dX12_doneOf_23 rfl ?_
  refine j_aload_n C 0 dX12_doneOf_25 rfl rfl ?_
  refine j_gS C f_X12_20 n_84 q_84_3 dX12_doneOf_26 ?_
  refine j_sipush C 187 dX12_doneOf_29 (by decide) ?_
  refine j_iald C n_86 hm dX12_doneOf_32 (fun hm => ?_)
  refine j_if_icmpge C 76 dX12_doneOf_33 (by decide) hm (fun hm => ?_) (fun hm => ?_)
  · refine j_aload_n C 0 dX12_doneOf_76 rfl rfl ?_
    refine j_gS C f_X12_20 n_84 q_84_3 dX12_doneOf_77 ?_
    refine j_sipush C 187 dX12_doneOf_80 (by decide) ?_
    refine j_iald C n_86 hm dX12_doneOf_83 (fun hm => ?_)
    obtain rfl := Option.some.inj hm
    exact j_iret C O dX12_doneOf_84
  · refine j_aload_n C 0 dX12_doneOf_36 rfl rfl ?_
    refine j_iload_n C 1 dX12_doneOf_37 rfl rfl ?_
    refine j_iload C 4 dX12_doneOf_38 rfl ?_
    refine j_iload_n C 2 dX12_doneOf_40 rfl rfl ?_
    refine j_iload C 5 dX12_doneOf_41 rfl ?_
    refine j_iadd C dX12_doneOf_43 ?_
    refine j_aload_n C 0 dX12_doneOf_44 rfl rfl ?_
    refine j_gS C f_X12_20 n_84 q_84_3 dX12_doneOf_45 ?_
    refine j_bipush C 121 dX12_doneOf_48 (by decide) ?_
    refine j_iload C 5 dX12_doneOf_50 rfl ?_
    refine j_iadd C dX12_doneOf_52 ?_
    refine j_iald C n_86 hm dX12_doneOf_53 (fun hm => ?_)
    refine j_iload C 3 dX12_doneOf_54 rfl ?_
    refine j_cV C l_X12_357 [.int v1, .int v5, .int (v2 + v6), .int (hI h 86 (ix (((121 : Int32)) + v6))), .int v4] [] (fun u1 => some (.int u1)) (fun _ => h) (fun u1 => [.int u1]) n_84 hm (fun l u hu => c_Mod_behind hu) rfl (Nat.le_of_ble_eq_true rfl) rfl (Nat.le_of_ble_eq_true rfl) (Nat.le_of_ble_eq_true rfl) (fun _ => rfl) dX12_doneOf_56 (fun u1 hm => ?_)
    refine j_istore C [(5, .int u1), (0, .ref (G.1 + 84)), (1, .int v1), (2, .int v2), (4, .int v4), (6, .int v6)] dX12_doneOf_59 (by decide) rfl ?_
    refine j_iload C 0 dX12_doneOf_61 rfl ?_
    refine j_iconst C (-1 : Int32) dX12_doneOf_63 (by decide) ?_
    refine j_if_icmpne C 70 dX12_doneOf_64 (by decide) hm (fun hm => ?_) (fun hm => ?_)
    · refine j_iload C 5 dX12_doneOf_67 rfl ?_
      obtain rfl := Option.some.inj hm
      exact j_iret C O dX12_doneOf_69
    · refine j_iinc C 5 [(6, .int (v6 + (1 : Int32))), (5, .int u1), (0, .ref (G.1 + 84)), (1, .int v1), (2, .int v2), (4, .int v4)] dX12_doneOf_70 rfl (add_lit (by decide)) (by decide) rfl ?_
      refine j_goto C 23 dX12_doneOf_73 (by decide) ?_
      obtain rfl := Option.some.inj hm
      refine j_sub (L' := [(0, .ref (G.1 + 84)), (1, .int v1), (2, .int v2), (4, .int v4), (5, .int u1), (6, .int (v6 + (1 : Int32)))]) [2, 3, 4, 5, 1, 0] rfl ?_
      exact O
theorem k_Mod_doneOf_23 {G : jG} {X : jX} (C : jC G X cX12_doneOf 7 RX12 4 143) {v1 : Int32} {v2 : Int32} {v4 : Int32} {v5 : Int32} {v6 : Int32} {h : Hp} {out : Int32} (O : (O_Mod_doneOf G X h) out) (hm : lp (fun q => s_Mod_doneOf_23 q.1 q.2.1 q.2.2.1 q.2.2.2.1 q.2.2.2.2 h) (v1, v2, v4, v5, v6) = some out) : J G X 23 [(0, .ref (G.1 + 84)), (1, .int v1), (2, .int v2), (4, .int v4), (5, .int v5), (6, .int v6)] [] h :=
  lp_ok (P := P_Mod_doneOf_23 G X h) (O := (O_Mod_doneOf G X h)) (fun q r hm O => w_Mod_doneOf_23 C O hm) hm O
theorem w_Mod_doneOf {G : jG} {X : jX} (C : jC G X cX12_doneOf 7 RX12 4 143) {v1 : Int32} {v2 : Int32} {v3 : Int32} {v4 : Int32} {h : Hp} {out : Int32} (O : (O_Mod_doneOf G X h) out) (hm : s_Mod_doneOf v1 v2 v3 v4 h = some out) : J G X 0 [(0, .ref (G.1 + 84)), (1, .int v1), (2, .int v2), (3, .int v3), (4, .int v4)] [] h := by
  unfold s_Mod_doneOf at hm
  refine j_aload_n C 0 dX12_doneOf_0 rfl rfl ?_
  refine j_iload_n C 1 dX12_doneOf_1 rfl rfl ?_
  refine j_iload_n C 3 dX12_doneOf_2 rfl rfl ?_
  refine j_iload_n C 2 dX12_doneOf_3 rfl rfl ?_
  refine j_iload C 4 dX12_doneOf_4 rfl ?_
  refine j_cS C l_X12_351 [.int v2, .int v4] [.int v3, .int v1, .ref (G.1 + 84)] (fun u1 => some (.int u1)) (fun _ => h) (fun u1 => [.int u1, .int v3, .int v1, .ref (G.1 + 84)]) hm (fun l u hu => c_Mod_minuteOf hu) rfl (Nat.le_of_ble_eq_true rfl) rfl (Nat.le_of_ble_eq_true rfl) (Nat.le_of_ble_eq_true rfl) (fun _ => rfl) dX12_doneOf_6 (fun u1 hm => ?_)
  refine j_cV C l_X12_354 [.int v1, .int v3, .int u1] [] (fun u2 => some (.int u2)) (fun _ => h) (fun u2 => [.int u2]) n_84 hm (fun l u hu => c_Mod_canBe hu) rfl (Nat.le_of_ble_eq_true rfl) rfl (Nat.le_of_ble_eq_true rfl) (Nat.le_of_ble_eq_true rfl) (fun _ => rfl) dX12_doneOf_9 (fun u2 hm => ?_)
  refine j_ifne C 17 dX12_doneOf_12 (by decide) hm (fun hm => ?_) (fun hm => ?_)
  · refine j_iconst C (-1 : Int32) dX12_doneOf_15 (by decide) ?_
    obtain rfl := Option.some.inj hm
    exact j_iret C O dX12_doneOf_16
  · refine j_iload_n C 3 dX12_doneOf_17 rfl rfl ?_
    refine j_istore C [(5, .int v3), (0, .ref (G.1 + 84)), (1, .int v1), (2, .int v2), (3, .int v3), (4, .int v4)] dX12_doneOf_18 (by decide) rfl ?_
    refine j_iconst C 0 dX12_doneOf_20 (by decide) ?_
    refine j_istore C [(6, .int ((0 : Int32))), (5, .int v3), (0, .ref (G.1 + 84)), (1, .int v1), (2, .int v2), (3, .int v3), (4, .int v4)] dX12_doneOf_21 (by decide) rfl ?_
    refine j_sub (L' := [(0, .ref (G.1 + 84)), (1, .int v1), (2, .int v2), (4, .int v4), (5, .int v3), (6, .int ((0 : Int32)))]) [2, 3, 4, 6, 1, 0] rfl ?_
    exact k_Mod_doneOf_23 C O hm
theorem c_Mod_doneOf {G : jG} {l : Launch} {v1 : Int32} {v2 : Int32} {v3 : Int32} {v4 : Int32} {h : Hp} {out : Int32} (hm : s_Mod_doneOf v1 v2 v3 v4 h = some out) : mt G l yX12_doneOf cX12_doneOf 7 (some .int) 4 143 [.ref (G.1 + 84), .int v1, .int v2, .int v3, .int v4] h (some (.int out)) h :=
  mt_of (by decide) (Nat.le_of_ble_eq_true rfl) _ rfl (fun X I C O => w_Mod_doneOf C O hm)
noncomputable def s_Mod_done_23 (h : Hp) : Option (Int32 × Hp) :=
  some ((-1 : Int32), h)
noncomputable def s_Mod_done (v1 : Int32) (v2 : Int32) (v3 : Int32) (v4 : Int32) (h : Hp) : Option (Int32 × Hp) :=
  (s_Mod_isWay v1 v2 v3 v3 h).bind fun u1 => if u1 = 0 then
    s_Mod_done_23 h
  else
    (s_Mod_lies v4 ((-60 : Int32)) ((60 : Int32)) h).bind fun u2 => if u2 = 0 then
      s_Mod_done_23 h
    else
      (s_Mod_looks h).bind fun u3 => (s_Mod_doneOf v1 v2 v3 v4 u3).bind fun u4 => some (u4, u3)
def O_Mod_done (G : jG) (X : jX) (out : (Int32 × Hp)) : Prop := jO G X (some .int) (some (.int out.1)) out.2
theorem w_Mod_done_23 {G : jG} {X : jX} (C : jC G X cX12_done 5 RX12 179 4679) {h : Hp} {out : (Int32 × Hp)} (O : (O_Mod_done G X) out) (hm : s_Mod_done_23 h = some out) : J G X 23 [] [] h := by
  unfold s_Mod_done_23 at hm
  refine j_iconst C (-1 : Int32) dX12_done_23 (by decide) ?_
  obtain rfl := Option.some.inj hm
  exact j_iret C O dX12_done_24
theorem w_Mod_done {G : jG} {X : jX} (C : jC G X cX12_done 5 RX12 179 4679) {v1 : Int32} {v2 : Int32} {v3 : Int32} {v4 : Int32} {h : Hp} {out : (Int32 × Hp)} (O : (O_Mod_done G X) out) (hm : s_Mod_done v1 v2 v3 v4 h = some out) : J G X 0 [(0, .ref (G.1 + 84)), (1, .int v1), (2, .int v2), (3, .int v3), (4, .int v4)] [] h := by
  unfold s_Mod_done at hm
  refine j_aload_n C 0 dX12_done_0 rfl rfl ?_
  refine j_iload_n C 1 dX12_done_1 rfl rfl ?_
  refine j_iload_n C 2 dX12_done_2 rfl rfl ?_
  refine j_iload_n C 3 dX12_done_3 rfl rfl ?_
  refine j_iload_n C 3 dX12_done_4 rfl rfl ?_
  refine j_cV C l_X12_367 [.int v1, .int v2, .int v3, .int v3] [] (fun u1 => some (.int u1)) (fun _ => h) (fun u1 => [.int u1]) n_84 hm (fun l u hu => c_Mod_isWay hu) rfl (Nat.le_of_ble_eq_true rfl) rfl (Nat.le_of_ble_eq_true rfl) (Nat.le_of_ble_eq_true rfl) (fun _ => rfl) dX12_done_5 (fun u1 hm => ?_)
  refine j_ifeq C 23 dX12_done_8 (by decide) hm (fun hm => ?_) (fun hm => ?_)
  · refine j_sub (L' := []) [] rfl ?_
    exact w_Mod_done_23 C O hm
  · refine j_iload C 4 dX12_done_11 rfl ?_
    refine j_bipush C (-60 : Int32) dX12_done_13 (by decide) ?_
    refine j_bipush C 60 dX12_done_15 (by decide) ?_
    refine j_cS C l_X12_113 [.int v4, .int ((-60 : Int32)), .int ((60 : Int32))] [] (fun u2 => some (.int u2)) (fun _ => h) (fun u2 => [.int u2]) hm (fun l u hu => c_Mod_lies hu) rfl (Nat.le_of_ble_eq_true rfl) rfl (Nat.le_of_ble_eq_true rfl) (Nat.le_of_ble_eq_true rfl) (fun _ => rfl) dX12_done_17 (fun u2 hm => ?_)
    refine j_ifne C 25 dX12_done_20 (by decide) hm (fun hm => ?_) (fun hm => ?_)
    · refine j_sub (L' := []) [] rfl ?_
      exact w_Mod_done_23 C O hm
    · refine j_aload_n C 0 dX12_done_25 rfl rfl ?_
      refine j_cV C l_X12_321 [] [] (fun _ => none) (fun u3 => u3) (fun u3 => []) n_84 hm (fun l u hu => c_Mod_looks hu) rfl (Nat.le_of_ble_eq_true rfl) rfl (Nat.le_of_ble_eq_true rfl) (Nat.le_of_ble_eq_true rfl) (fun _ => rfl) dX12_done_26 (fun u3 hm => ?_)
      refine j_aload_n C 0 dX12_done_29 rfl rfl ?_
      refine j_iload_n C 1 dX12_done_30 rfl rfl ?_
      refine j_iload_n C 2 dX12_done_31 rfl rfl ?_
      refine j_iload_n C 3 dX12_done_32 rfl rfl ?_
      refine j_iload C 4 dX12_done_33 rfl ?_
      refine j_cV C l_X12_374 [.int v1, .int v2, .int v3, .int v4] [] (fun u4 => some (.int u4)) (fun _ => u3) (fun u4 => [.int u4]) n_84 hm (fun l u hu => c_Mod_doneOf hu) rfl (Nat.le_of_ble_eq_true rfl) rfl (Nat.le_of_ble_eq_true rfl) (Nat.le_of_ble_eq_true rfl) (fun _ => rfl) dX12_done_35 (fun u4 hm => ?_)
      obtain rfl := Option.some.inj hm
      exact j_iret C O dX12_done_38
theorem c_Mod_done {G : jG} {l : Launch} {v1 : Int32} {v2 : Int32} {v3 : Int32} {v4 : Int32} {h : Hp} {out : (Int32 × Hp)} (hm : s_Mod_done v1 v2 v3 v4 h = some out) : mt G l yX12_done cX12_done 5 (some .int) 179 4679 [.ref (G.1 + 84), .int v1, .int v2, .int v3, .int v4] h (some (.int out.1)) out.2 :=
  mt_of (by decide) (Nat.le_of_ble_eq_true rfl) _ rfl (fun X I C O => w_Mod_done C O hm)
noncomputable def s_Mod_drawn_26 (s0 : Int32) (h : Hp) : Option Int32 :=
  some (s0)
noncomputable def s_Mod_drawn_23 (h : Hp) : Option Int32 :=
  s_Mod_drawn_26 ((-100000 : Int32)) h
noncomputable def s_Mod_drawn (v1 : Int32) (h : Hp) : Option Int32 :=
  if (hI h 84 51) = 0 then
    s_Mod_drawn_23 h
  else
    (s_Mod_isMinute v1 h).bind fun u1 => if u1 = 0 then
      s_Mod_drawn_23 h
    else
      ib v1 1440 <| s_Mod_drawn_26 (hI h 113 (ix v1)) h
def O_Mod_drawn (G : jG) (X : jX) (h : Hp) (out : Int32) : Prop := jO G X (some .int) (some (.int out)) h
theorem w_Mod_drawn_26 {G : jG} {X : jX} (C : jC G X cX12_drawn 2 RX12 3 112) {s0 : Int32} {h : Hp} {out : Int32} (O : (O_Mod_drawn G X h) out) (hm : s_Mod_drawn_26 s0 h = some out) : J G X 26 [] [.int s0] h := by
  unfold s_Mod_drawn_26 at hm
  obtain rfl := Option.some.inj hm
  exact j_iret C O dX12_drawn_26
theorem w_Mod_drawn_23 {G : jG} {X : jX} (C : jC G X cX12_drawn 2 RX12 3 112) {h : Hp} {out : Int32} (O : (O_Mod_drawn G X h) out) (hm : s_Mod_drawn_23 h = some out) : J G X 23 [] [] h := by
  unfold s_Mod_drawn_23 at hm
  refine j_ldc_w C wd_1649 dX12_drawn_23 ?_
  refine j_sub (L' := []) [] rfl ?_
  exact w_Mod_drawn_26 C O hm
theorem w_Mod_drawn {G : jG} {X : jX} (C : jC G X cX12_drawn 2 RX12 3 112) {v1 : Int32} {h : Hp} {out : Int32} (O : (O_Mod_drawn G X h) out) (hm : s_Mod_drawn v1 h = some out) : J G X 0 [(0, .ref (G.1 + 84)), (1, .int v1)] [] h := by
  unfold s_Mod_drawn at hm
  refine j_aload_n C 0 dX12_drawn_0 rfl rfl ?_
  refine j_gZ C f_X12_446 n_84 dX12_drawn_1 ?_
  refine j_ifeq C 23 dX12_drawn_4 (by decide) hm (fun hm => ?_) (fun hm => ?_)
  · refine j_sub (L' := []) [] rfl ?_
    exact w_Mod_drawn_23 C O hm
  · refine j_iload_n C 1 dX12_drawn_7 rfl rfl ?_
    refine j_cS C l_X12_280 [.int v1] [] (fun u1 => some (.int u1)) (fun _ => h) (fun u1 => [.int u1]) hm (fun l u hu => c_Mod_isMinute hu) rfl (Nat.le_of_ble_eq_true rfl) rfl (Nat.le_of_ble_eq_true rfl) (Nat.le_of_ble_eq_true rfl) (fun _ => rfl) dX12_drawn_8 (fun u1 hm => ?_)
    refine j_ifeq C 23 dX12_drawn_11 (by decide) hm (fun hm => ?_) (fun hm => ?_)
    · refine j_sub (L' := []) [] rfl ?_
      exact w_Mod_drawn_23 C O hm
    · refine j_aload_n C 0 dX12_drawn_14 rfl rfl ?_
      refine j_gS C f_X12_110 n_84 q_84_50 dX12_drawn_15 ?_
      refine j_iload_n C 1 dX12_drawn_18 rfl rfl ?_
      refine j_iald C n_113 hm dX12_drawn_19 (fun hm => ?_)
      refine j_goto C 26 dX12_drawn_20 (by decide) ?_
      refine j_sub (L' := []) [] rfl ?_
      exact w_Mod_drawn_26 C O hm
theorem c_Mod_drawn {G : jG} {l : Launch} {v1 : Int32} {h : Hp} {out : Int32} (hm : s_Mod_drawn v1 h = some out) : mt G l yX12_drawn cX12_drawn 2 (some .int) 3 112 [.ref (G.1 + 84), .int v1] h (some (.int out)) h :=
  mt_of (by decide) (Nat.le_of_ble_eq_true rfl) _ rfl (fun X I C O => w_Mod_drawn C O hm)
noncomputable def s_Mod_end (v1 : Int32) (h : Hp) : Option (Int32 × Hp) :=
  (s_Mod_lies v1 ((0 : Int32)) (hI h 84 10) h).bind fun u1 => if u1 = 0 then
    some ((-1 : Int32), h)
  else
    some (v1, sI h 84 10 v1)
def O_Mod_end (G : jG) (X : jX) (out : (Int32 × Hp)) : Prop := jO G X (some .int) (some (.int out.1)) out.2
theorem w_Mod_end {G : jG} {X : jX} (C : jC G X cX12_end 2 RX12 2 92) {v1 : Int32} {h : Hp} {out : (Int32 × Hp)} (O : (O_Mod_end G X) out) (hm : s_Mod_end v1 h = some out) : J G X 0 [(0, .ref (G.1 + 84)), (1, .int v1)] [] h := by
  unfold s_Mod_end at hm
  refine j_iload_n C 1 dX12_end_0 rfl rfl ?_
  refine j_iconst C 0 dX12_end_1 (by decide) ?_
  refine j_aload_n C 0 dX12_end_2 rfl rfl ?_
  refine j_gI C f_X12_139 n_84 dX12_end_3 ?_
  refine j_cS C l_X12_113 [.int v1, .int ((0 : Int32)), .int (hI h 84 10)] [] (fun u1 => some (.int u1)) (fun _ => h) (fun u1 => [.int u1]) hm (fun l u hu => c_Mod_lies hu) rfl (Nat.le_of_ble_eq_true rfl) rfl (Nat.le_of_ble_eq_true rfl) (Nat.le_of_ble_eq_true rfl) (fun _ => rfl) dX12_end_6 (fun u1 hm => ?_)
  refine j_ifne C 14 dX12_end_9 (by decide) hm (fun hm => ?_) (fun hm => ?_)
  · refine j_iconst C (-1 : Int32) dX12_end_12 (by decide) ?_
    obtain rfl := Option.some.inj hm
    exact j_iret C O dX12_end_13
  · refine j_aload_n C 0 dX12_end_14 rfl rfl ?_
    refine j_iload_n C 1 dX12_end_15 rfl rfl ?_
    refine j_pI C f_X12_139 n_84 dX12_end_16 ?_
    refine j_iload_n C 1 dX12_end_19 rfl rfl ?_
    obtain rfl := Option.some.inj hm
    exact j_iret C O dX12_end_20
theorem c_Mod_end {G : jG} {l : Launch} {v1 : Int32} {h : Hp} {out : (Int32 × Hp)} (hm : s_Mod_end v1 h = some out) : mt G l yX12_end cX12_end 2 (some .int) 2 92 [.ref (G.1 + 84), .int v1] h (some (.int out.1)) out.2 :=
  mt_of (by decide) (Nat.le_of_ble_eq_true rfl) _ rfl (fun X I C O => w_Mod_end C O hm)
noncomputable def s_Mod_fault (h : Hp) : Option Int32 :=
  some (hI h 84 11)
def O_Mod_fault (G : jG) (X : jX) (h : Hp) (out : Int32) : Prop := jO G X (some .int) (some (.int out)) h
theorem w_Mod_fault {G : jG} {X : jX} (C : jC G X cX12_fault 1 RX12 1 70) {h : Hp} {out : Int32} (O : (O_Mod_fault G X h) out) (hm : s_Mod_fault h = some out) : J G X 0 [(0, .ref (G.1 + 84))] [] h := by
  unfold s_Mod_fault at hm
  refine j_aload_n C 0 dX12_fault_0 rfl rfl ?_
  refine j_gI C f_X12_40 n_84 dX12_fault_1 ?_
  obtain rfl := Option.some.inj hm
  exact j_iret C O dX12_fault_4
theorem c_Mod_fault {G : jG} {l : Launch} {h : Hp} {out : Int32} (hm : s_Mod_fault h = some out) : mt G l yX12_fault cX12_fault 1 (some .int) 1 70 [.ref (G.1 + 84)] h (some (.int out)) h :=
  mt_of (by decide) (Nat.le_of_ble_eq_true rfl) _ rfl (fun X I C O => w_Mod_fault C O hm)
noncomputable def s_Mod_fine_13 (s0 : Int32) (h : Hp) : Option Int32 :=
  bz s0 <| some (s0)
noncomputable def s_Mod_fine (h : Hp) : Option Int32 :=
  if (hI h 84 18) = ((-1 : Int32)) then
    s_Mod_fine_13 ((1 : Int32)) h
  else
    s_Mod_fine_13 ((0 : Int32)) h
def O_Mod_fine (G : jG) (X : jX) (h : Hp) (out : Int32) : Prop := jO G X (some .boolean) (some (.int out)) h
theorem w_Mod_fine_13 {G : jG} {X : jX} (C : jC G X cX12_fine 1 RX12 1 70) {s0 : Int32} {h : Hp} {out : Int32} (O : (O_Mod_fine G X h) out) (hm : s_Mod_fine_13 s0 h = some out) : J G X 13 [] [.int s0] h := by
  unfold s_Mod_fine_13 at hm
  obtain ⟨cz, hm⟩ := bz_inv hm
  obtain rfl := Option.some.inj hm
  exact j_zret C O cz dX12_fine_13
theorem w_Mod_fine {G : jG} {X : jX} (C : jC G X cX12_fine 1 RX12 1 70) {h : Hp} {out : Int32} (O : (O_Mod_fine G X h) out) (hm : s_Mod_fine h = some out) : J G X 0 [(0, .ref (G.1 + 84))] [] h := by
  unfold s_Mod_fine at hm
  refine j_aload_n C 0 dX12_fine_0 rfl rfl ?_
  refine j_gI C f_X12_158 n_84 dX12_fine_1 ?_
  refine j_iconst C (-1 : Int32) dX12_fine_4 (by decide) ?_
  refine j_if_icmpne C 12 dX12_fine_5 (by decide) hm (fun hm => ?_) (fun hm => ?_)
  · refine j_iconst C 1 dX12_fine_8 (by decide) ?_
    refine j_goto C 13 dX12_fine_9 (by decide) ?_
    refine j_sub (L' := []) [] rfl ?_
    exact w_Mod_fine_13 C O hm
  · refine j_iconst C 0 dX12_fine_12 (by decide) ?_
    refine j_sub (L' := []) [] rfl ?_
    exact w_Mod_fine_13 C O hm
theorem c_Mod_fine {G : jG} {l : Launch} {h : Hp} {out : Int32} (hm : s_Mod_fine h = some out) : mt G l yX12_fine cX12_fine 1 (some .boolean) 1 70 [.ref (G.1 + 84)] h (some (.int out)) h :=
  mt_of (by decide) (Nat.le_of_ble_eq_true rfl) _ rfl (fun X I C O => w_Mod_fine C O hm)
noncomputable def s_Mod_faults_20 (h : Hp) : Option Hp :=
  some h
noncomputable def s_Mod_faults (h : Hp) : Option Hp :=
  (s_Mod_fine h).bind fun u1 => if u1 = 0 then
    s_Mod_faults_20 h
  else
    ib (hI h 84 16) 401 <| s_Mod_faults_20 (sI h 84 18 (hI h 94 (ix (hI h 84 16))))
def O_Mod_faults (G : jG) (X : jX) (out : Hp) : Prop := jO G X (none) none out
theorem w_Mod_faults_20 {G : jG} {X : jX} (C : jC G X cX12_faults 1 RX12 2 90) {h : Hp} {out : Hp} (O : (O_Mod_faults G X) out) (hm : s_Mod_faults_20 h = some out) : J G X 20 [] [] h := by
  unfold s_Mod_faults_20 at hm
  obtain rfl := Option.some.inj hm
  exact j_vret C O dX12_faults_20
theorem w_Mod_faults {G : jG} {X : jX} (C : jC G X cX12_faults 1 RX12 2 90) {h : Hp} {out : Hp} (O : (O_Mod_faults G X) out) (hm : s_Mod_faults h = some out) : J G X 0 [(0, .ref (G.1 + 84))] [] h := by
  unfold s_Mod_faults at hm
  refine j_aload_n C 0 dX12_faults_0 rfl rfl ?_
  refine j_cV C l_X12_161 [] [] (fun u1 => some (.int u1)) (fun _ => h) (fun u1 => [.int u1]) n_84 hm (fun l u hu => c_Mod_fine hu) rfl (Nat.le_of_ble_eq_true rfl) rfl (Nat.le_of_ble_eq_true rfl) (Nat.le_of_ble_eq_true rfl) (fun _ => rfl) dX12_faults_1 (fun u1 hm => ?_)
  refine j_ifeq C 20 dX12_faults_4 (by decide) hm (fun hm => ?_) (fun hm => ?_)
  · refine j_sub (L' := []) [] rfl ?_
    exact w_Mod_faults_20 C O hm
  · refine j_aload_n C 0 dX12_faults_7 rfl rfl ?_
    refine j_aload_n C 0 dX12_faults_8 rfl rfl ?_
    refine j_gS C f_X12_49 n_84 q_84_14 dX12_faults_9 ?_
    refine j_aload_n C 0 dX12_faults_12 rfl rfl ?_
    refine j_gI C f_X12_165 n_84 dX12_faults_13 ?_
    refine j_iald C n_94 hm dX12_faults_16 (fun hm => ?_)
    refine j_pI C f_X12_158 n_84 dX12_faults_17 ?_
    refine j_sub (L' := []) [] rfl ?_
    exact w_Mod_faults_20 C O hm
theorem c_Mod_faults {G : jG} {l : Launch} {h : Hp} {out : Hp} (hm : s_Mod_faults h = some out) : mt G l yX12_faults cX12_faults 1 (none) 2 90 [.ref (G.1 + 84)] h none out :=
  mt_of (by decide) (Nat.le_of_ble_eq_true rfl) _ rfl (fun X I C O => w_Mod_faults C O hm)
noncomputable def s_Mod_feed_55 (v6 : Int32) (h : Hp) : Option ((Int32 × Hp) ⊕ (Int32 × Hp)) :=
  if ((20 : Int32)) ≤ v6 then
    lt (sI h 84 10 ((hI h 84 10) + ((20 : Int32)))) fun h1 => some (.inr (hI h1 84 10, h1))
  else
    ib (v6 / ((4 : Int32))) 5 <| ib ((hI h 84 10) + v6) 400 <| some (.inl ((v6 + (1 : Int32)), (sI h 90 (ix ((hI h 84 10) + v6)) (z_nb (z_i2b (z_shr (hI h 91 (ix (v6 / ((4 : Int32))))) (((24 : Int32)) - (((8 : Int32)) * (z_rem v6 ((4 : Int32)))))))))))
noncomputable def s_Mod_feed (v1 : Int32) (v2 : Int32) (v3 : Int32) (v4 : Int32) (v5 : Int32) (h : Hp) : Option (Int32 × Hp) :=
  if ((hI h 84 10) + ((20 : Int32))) ≤ ((400 : Int32)) then
    ib ((0 : Int32)) 5 <| lt (sI h 91 (ix ((0 : Int32))) v1) fun h1 => ib ((1 : Int32)) 5 <| lt (sI h1 91 (ix ((1 : Int32))) v2) fun h2 => ib ((2 : Int32)) 5 <| lt (sI h2 91 (ix ((2 : Int32))) v3) fun h3 => ib ((3 : Int32)) 5 <| lt (sI h3 91 (ix ((3 : Int32))) v4) fun h4 => ib ((4 : Int32)) 5 <| lp (fun q => s_Mod_feed_55 q.1 q.2) (((0 : Int32)), (sI h4 91 (ix ((4 : Int32))) v5))
  else
    some ((-1 : Int32), h)
def O_Mod_feed (G : jG) (X : jX) (out : (Int32 × Hp)) : Prop := jO G X (some .int) (some (.int out.1)) out.2
def P_Mod_feed_55 (G : jG) (X : jX) (q : Int32 × Hp) : Prop := J G X 55 [(0, .ref (G.1 + 84)), (6, .int q.1)] [] q.2
def O_Mod_feed_55 (G : jG) (X : jX) (t : ((Int32 × Hp) ⊕ (Int32 × Hp))) : Prop := Sum.elim (P_Mod_feed_55 G X) (O_Mod_feed G X) t
theorem w_Mod_feed_55 {G : jG} {X : jX} (C : jC G X cX12_feed 7 RX12 1 70) {v6 : Int32} {h : Hp} {out : ((Int32 × Hp) ⊕ (Int32 × Hp))} (O : (O_Mod_feed_55 G X) out) (hm : s_Mod_feed_55 v6 h = some out) : J G X 55 [(0, .ref (G.1 + 84)), (6, .int v6)] [] h := by
  unfold s_Mod_feed_55 at hm
  refine j_iload C 1 dX12_feed_55 rfl ?_
  refine j_bipush C 20 dX12_feed_57 (by decide) ?_
  refine j_if_icmpge C 101 dX12_feed_59 (by decide) hm (fun hm => ?_) (fun hm => ?_)
  · refine j_aload_n C 0 dX12_feed_101 rfl rfl ?_
    refine j_dup C dX12_feed_102 rfl ?_
    refine j_gI C f_X12_139 n_84 dX12_feed_103 ?_
    refine j_bipush C 20 dX12_feed_106 (by decide) ?_
    refine j_iadd C dX12_feed_108 ?_
    refine j_pI C f_X12_139 n_84 dX12_feed_109 ?_
    refine j_aload_n C 0 dX12_feed_112 rfl rfl ?_
    refine j_nmH hm (fun h1 hm => ?_)
    refine j_gI C f_X12_139 n_84 dX12_feed_113 ?_
    obtain rfl := Option.some.inj hm
    exact j_iret C O dX12_feed_116
  · refine j_aload_n C 0 dX12_feed_62 rfl rfl ?_
    refine j_gS C f_X12_34 n_84 q_84_8 dX12_feed_63 ?_
    refine j_aload_n C 0 dX12_feed_66 rfl rfl ?_
    refine j_gI C f_X12_139 n_84 dX12_feed_67 ?_
    refine j_iload C 1 dX12_feed_70 rfl ?_
    refine j_iadd C dX12_feed_72 ?_
    refine j_aload_n C 0 dX12_feed_73 rfl rfl ?_
    refine j_gS C f_X12_37 n_84 q_84_9 dX12_feed_74 ?_
    refine j_iload C 1 dX12_feed_77 rfl ?_
    refine j_iconst C 4 dX12_feed_79 (by decide) ?_
    refine j_idiv C dX12_feed_80 (by decide) ?_
    refine j_iald C n_91 hm dX12_feed_81 (fun hm => ?_)
    refine j_bipush C 24 dX12_feed_82 (by decide) ?_
    refine j_bipush C 8 dX12_feed_84 (by decide) ?_
    refine j_iload C 1 dX12_feed_86 rfl ?_
    refine j_iconst C 4 dX12_feed_88 (by decide) ?_
    refine j_irem C dX12_feed_89 (by decide) ?_
    refine j_imul C dX12_feed_90 ?_
    refine j_isub C dX12_feed_91 ?_
    refine j_ishr C dX12_feed_92 ?_
    refine j_i2b C dX12_feed_93 ?_
    refine j_bast C n_90 hm dX12_feed_94 (fun hm => ?_)
    refine j_iinc C 1 [(6, .int (v6 + (1 : Int32))), (0, .ref (G.1 + 84))] dX12_feed_95 rfl (add_lit (by decide)) (by decide) rfl ?_
    refine j_goto C 55 dX12_feed_98 (by decide) ?_
    obtain rfl := Option.some.inj hm
    refine j_sub (L' := [(0, .ref (G.1 + 84)), (6, .int (v6 + (1 : Int32)))]) [1, 0] rfl ?_
    exact O
theorem k_Mod_feed_55 {G : jG} {X : jX} (C : jC G X cX12_feed 7 RX12 1 70) {v6 : Int32} {h : Hp} {out : (Int32 × Hp)} (O : (O_Mod_feed G X) out) (hm : lp (fun q => s_Mod_feed_55 q.1 q.2) (v6, h) = some out) : J G X 55 [(0, .ref (G.1 + 84)), (6, .int v6)] [] h :=
  lp_ok (P := P_Mod_feed_55 G X) (O := (O_Mod_feed G X)) (fun q r hm O => w_Mod_feed_55 C O hm) hm O
theorem w_Mod_feed {G : jG} {X : jX} (C : jC G X cX12_feed 7 RX12 1 70) {v1 : Int32} {v2 : Int32} {v3 : Int32} {v4 : Int32} {v5 : Int32} {h : Hp} {out : (Int32 × Hp)} (O : (O_Mod_feed G X) out) (hm : s_Mod_feed v1 v2 v3 v4 v5 h = some out) : J G X 0 [(0, .ref (G.1 + 84)), (1, .int v1), (2, .int v2), (3, .int v3), (4, .int v4), (5, .int v5)] [] h := by
  unfold s_Mod_feed at hm
  refine j_aload_n C 0 dX12_feed_0 rfl rfl ?_
  refine j_gI C f_X12_139 n_84 dX12_feed_1 ?_
  refine j_bipush C 20 dX12_feed_4 (by decide) ?_
  refine j_iadd C dX12_feed_6 ?_
  refine j_sipush C 400 dX12_feed_7 (by decide) ?_
  refine j_if_icmple C 15 dX12_feed_10 (by decide) hm (fun hm => ?_) (fun hm => ?_)
  · refine j_aload_n C 0 dX12_feed_15 rfl rfl ?_
    refine j_gS C f_X12_37 n_84 q_84_9 dX12_feed_16 ?_
    refine j_iconst C 0 dX12_feed_19 (by decide) ?_
    refine j_iload_n C 1 dX12_feed_20 rfl rfl ?_
    refine j_iast C n_91 hm dX12_feed_21 (fun hm => ?_)
    refine j_aload_n C 0 dX12_feed_22 rfl rfl ?_
    refine j_nmH hm (fun h1 hm => ?_)
    refine j_gS C f_X12_37 n_84 q_84_9 dX12_feed_23 ?_
    refine j_iconst C 1 dX12_feed_26 (by decide) ?_
    refine j_iload_n C 2 dX12_feed_27 rfl rfl ?_
    refine j_iast C n_91 hm dX12_feed_28 (fun hm => ?_)
    refine j_aload_n C 0 dX12_feed_29 rfl rfl ?_
    refine j_nmH hm (fun h2 hm => ?_)
    refine j_gS C f_X12_37 n_84 q_84_9 dX12_feed_30 ?_
    refine j_iconst C 2 dX12_feed_33 (by decide) ?_
    refine j_iload_n C 3 dX12_feed_34 rfl rfl ?_
    refine j_iast C n_91 hm dX12_feed_35 (fun hm => ?_)
    refine j_aload_n C 0 dX12_feed_36 rfl rfl ?_
    refine j_nmH hm (fun h3 hm => ?_)
    refine j_gS C f_X12_37 n_84 q_84_9 dX12_feed_37 ?_
    refine j_iconst C 3 dX12_feed_40 (by decide) ?_
    refine j_iload C 4 dX12_feed_41 rfl ?_
    refine j_iast C n_91 hm dX12_feed_43 (fun hm => ?_)
    refine j_aload_n C 0 dX12_feed_44 rfl rfl ?_
    refine j_nmH hm (fun h4 hm => ?_)
    refine j_gS C f_X12_37 n_84 q_84_9 dX12_feed_45 ?_
    refine j_iconst C 4 dX12_feed_48 (by decide) ?_
    refine j_iload C 5 dX12_feed_49 rfl ?_
    refine j_iast C n_91 hm dX12_feed_51 (fun hm => ?_)
    refine j_iconst C 0 dX12_feed_52 (by decide) ?_
    refine j_istore C [(6, .int ((0 : Int32))), (0, .ref (G.1 + 84)), (1, .int v1), (2, .int v2), (3, .int v3), (4, .int v4), (5, .int v5)] dX12_feed_53 (by decide) rfl ?_
    refine j_sub (L' := [(0, .ref (G.1 + 84)), (6, .int ((0 : Int32)))]) [1, 0] rfl ?_
    exact k_Mod_feed_55 C O hm
  · refine j_iconst C (-1 : Int32) dX12_feed_13 (by decide) ?_
    obtain rfl := Option.some.inj hm
    exact j_iret C O dX12_feed_14
theorem c_Mod_feed {G : jG} {l : Launch} {v1 : Int32} {v2 : Int32} {v3 : Int32} {v4 : Int32} {v5 : Int32} {h : Hp} {out : (Int32 × Hp)} (hm : s_Mod_feed v1 v2 v3 v4 v5 h = some out) : mt G l yX12_feed cX12_feed 7 (some .int) 1 70 [.ref (G.1 + 84), .int v1, .int v2, .int v3, .int v4, .int v5] h (some (.int out.1)) out.2 :=
  mt_of (by decide) (Nat.le_of_ble_eq_true rfl) _ rfl (fun X I C O => w_Mod_feed C O hm)
