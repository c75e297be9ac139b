noncomputable def s_Mod_behind_22 (h : Hp) : Option Int32 :=
  some ((-1 : Int32))
noncomputable def s_Mod_behind_156 (s0 : Int32) (h : Hp) : Option Int32 :=
  some (s0)
noncomputable def s_Mod_behind_155 (h : Hp) : Option Int32 :=
  s_Mod_behind_156 ((-1 : Int32)) h
noncomputable def s_Mod_behind_125 (v1 : Int32) (v3 : Int32) (v5 : Int32) (v6 : Int32) (s0 : Int32) (h : Hp) : Option Int32 :=
  if s0 = 0 then
    s_Mod_behind_155 h
  else
    (s_Mod_minuteOf (v3 + ((1 : Int32))) v5 h).bind fun u1 => (s_Mod_canBe v1 v6 u1 h).bind fun u2 => if u2 = 0 then
      s_Mod_behind_155 h
    else
      s_Mod_behind_156 v6 h
noncomputable def s_Mod_behind (v1 : Int32) (v2 : Int32) (v3 : Int32) (v4 : Int32) (v5 : Int32) (h : Hp) : Option Int32 :=
  (s_Mod_toOf v2 v4 h).bind fun u1 => if u1 < 0 then
    s_Mod_behind_22 h
  else
    if (v3 + ((1 : Int32))) < ((144 : Int32)) then
      (s_Mod_kindOf v2 h).bind fun u2 => (s_Mod_minuteOf v3 v5 h).bind fun u3 => (s_Mod_flowAt u2 u3 h).bind fun u4 => ib (((91 : Int32)) + (((2 : Int32)) * v1)) 4998 <| lt (hI h 86 (ix (((91 : Int32)) + (((2 : Int32)) * v1)))) fun x5 => if v4 = ((1 : Int32)) then
        (s_Mod_term ((6 : Int32)) h).bind fun u8 => if (x5 + u4) < u8 then
          s_Mod_behind_125 v1 v3 v5 u1 ((0 : Int32)) h
        else
          s_Mod_behind_125 v1 v3 v5 u1 ((1 : Int32)) h
      else
        if v4 = ((2 : Int32)) then
          (s_Mod_term ((6 : Int32)) h).bind fun u7 => if (x5 - u4) < u7 then
            s_Mod_behind_125 v1 v3 v5 u1 ((0 : Int32)) h
          else
            s_Mod_behind_125 v1 v3 v5 u1 ((1 : Int32)) h
        else
          (s_Mod_size u4 h).bind fun u6 => if x5 < u6 then
            s_Mod_behind_125 v1 v3 v5 u1 ((0 : Int32)) h
          else
            s_Mod_behind_125 v1 v3 v5 u1 ((1 : Int32)) h
    else
      s_Mod_behind_22 h
def O_Mod_behind (G : jG) (X : jX) (h : Hp) (out : Int32) : Prop := jO G X (some .int) (some (.int out)) h
theorem w_Mod_behind_22 {G : jG} {X : jX} (C : jC G X cX12_behind 10 RX12 3 114) {h : Hp} {out : Int32} (O : (O_Mod_behind G X h) out) (hm : s_Mod_behind_22 h = some out) : J G X 22 [] [] h := by
  unfold s_Mod_behind_22 at hm
  refine j_iconst C (-1 : Int32) dX12_behind_22 (by decide) ?_
  obtain rfl := Option.some.inj hm
  exact j_iret C O dX12_behind_23
theorem w_Mod_behind_156 {G : jG} {X : jX} (C : jC G X cX12_behind 10 RX12 3 114) {s0 : Int32} {h : Hp} {out : Int32} (O : (O_Mod_behind G X h) out) (hm : s_Mod_behind_156 s0 h = some out) : J G X 156 [] [.int s0] h := by
  unfold s_Mod_behind_156 at hm
  obtain rfl := Option.some.inj hm
  exact j_iret C O dX12_behind_156
theorem w_Mod_behind_155 {G : jG} {X : jX} (C : jC G X cX12_behind 10 RX12 3 114) {h : Hp} {out : Int32} (O : (O_Mod_behind G X h) out) (hm : s_Mod_behind_155 h = some out) : J G X 155 [] [] h := by
  unfold s_Mod_behind_155 at hm
  refine j_iconst C (-1 : Int32) dX12_behind_155 (by decide) ?_
  refine j_sub (L' := []) [] rfl ?_
  exact w_Mod_behind_156 C O hm
theorem w_Mod_behind_125 {G : jG} {X : jX} (C : jC G X cX12_behind 10 RX12 3 114) {v1 : Int32} {v3 : Int32} {v5 : Int32} {v6 : Int32} {s0 : Int32} {h : Hp} {out : Int32} (O : (O_Mod_behind G X h) out) (hm : s_Mod_behind_125 v1 v3 v5 v6 s0 h = some out) : J G X 125 [(0, .ref (G.1 + 84)), (1, .int v1), (3, .int v3), (5, .int v5), (6, .int v6)] [.int s0] h := by
  unfold s_Mod_behind_125 at hm
  refine j_istore C [(9, .int s0), (0, .ref (G.1 + 84)), (1, .int v1), (3, .int v3), (5, .int v5), (6, .int v6)] dX12_behind_125 (by decide) rfl ?_
  refine j_iload C 0 dX12_behind_127 rfl ?_
  refine j_ifeq C 155 dX12_behind_129 (by decide) hm (fun hm => ?_) (fun hm => ?_)
  · refine j_sub (L' := []) [] rfl ?_
    exact w_Mod_behind_155 C O hm
  · refine j_aload_n C 1 dX12_behind_132 rfl rfl ?_
    refine j_iload_n C 2 dX12_behind_133 rfl rfl ?_
    refine j_iload C 5 dX12_behind_134 rfl ?_
    refine j_iload_n C 3 dX12_behind_136 rfl rfl ?_
    refine j_iconst C 1 dX12_behind_137 (by decide) ?_
    refine j_iadd C dX12_behind_138 ?_
    refine j_iload C 4 dX12_behind_139 rfl ?_
    refine j_cS C l_X12_351 [.int (v3 + ((1 : Int32))), .int v5] [.int v6, .int v1, .ref (G.1 + 84)] (fun u1 => some (.int u1)) (fun _ => h) (fun u1 => [.int u1, .int v6, .int v1, .ref (G.1 + 84)]) hm (fun l u hu => c_Mod_minuteOf hu) rfl (Nat.le_of_ble_eq_true rfl) rfl (Nat.le_of_ble_eq_true rfl) (Nat.le_of_ble_eq_true rfl) (fun _ => rfl) dX12_behind_141 (fun u1 hm => ?_)
    refine j_cV C l_X12_354 [.int v1, .int v6, .int u1] [] (fun u2 => some (.int u2)) (fun _ => h) (fun u2 => [.int u2]) n_84 hm (fun l u hu => c_Mod_canBe hu) rfl (Nat.le_of_ble_eq_true rfl) rfl (Nat.le_of_ble_eq_true rfl) (Nat.le_of_ble_eq_true rfl) (fun _ => rfl) dX12_behind_144 (fun u2 hm => ?_)
    refine j_ifeq C 155 dX12_behind_147 (by decide) hm (fun hm => ?_) (fun hm => ?_)
    · refine j_sub (L' := []) [] rfl ?_
      exact w_Mod_behind_155 C O hm
    · refine j_iload C 5 dX12_behind_150 rfl ?_
      refine j_goto C 156 dX12_behind_152 (by decide) ?_
      refine j_sub (L' := []) [] rfl ?_
      exact w_Mod_behind_156 C O hm
theorem w_Mod_behind {G : jG} {X : jX} (C : jC G X cX12_behind 10 RX12 3 114) {v1 : Int32} {v2 : Int32} {v3 : Int32} {v4 : Int32} {v5 : Int32} {h : Hp} {out : Int32} (O : (O_Mod_behind G X h) out) (hm : s_Mod_behind v1 v2 v3 v4 v5 h = some out) : J G X 0 [(0, .ref (G.1 + 84)), (1, .int v1), (2, .int v2), (3, .int v3), (4, .int v4), (5, .int v5)] [] h := by
  unfold s_Mod_behind at hm
  refine j_iload_n C 2 dX12_behind_0 rfl rfl ?_
  refine j_iload C 4 dX12_behind_1 rfl ?_
  refine j_cS C l_X12_348 [.int v2, .int v4] [] (fun u1 => some (.int u1)) (fun _ => h) (fun u1 => [.int u1]) hm (fun l u hu => c_Mod_toOf hu) rfl (Nat.le_of_ble_eq_true rfl) rfl (Nat.le_of_ble_eq_true rfl) (Nat.le_of_ble_eq_true rfl) (fun _ => rfl) dX12_behind_3 (fun u1 hm => ?_)
  refine j_istore C [(6, .int u1), (0, .ref (G.1 + 84)), (1, .int v1), (2, .int v2), (3, .int v3), (4, .int v4), (5, .int v5)] dX12_behind_6 (by decide) rfl ?_
  refine j_iload C 0 dX12_behind_8 rfl ?_
  refine j_iflt C 22 dX12_behind_10 (by decide) hm (fun hm => ?_) (fun hm => ?_)
  · refine j_sub (L' := []) [] rfl ?_
    exact w_Mod_behind_22 C O hm
  · refine j_iload_n C 4 dX12_behind_13 rfl rfl ?_
    refine j_iconst C 1 dX12_behind_14 (by decide) ?_
    refine j_iadd C dX12_behind_15 ?_
    refine j_sipush C 144 dX12_behind_16 (by decide) ?_
    refine j_if_icmplt C 24 dX12_behind_19 (by decide) hm (fun hm => ?_) (fun hm => ?_)
    · refine j_aload_n C 1 dX12_behind_24 rfl rfl ?_
      refine j_aload_n C 1 dX12_behind_25 rfl rfl ?_
      refine j_iload_n C 3 dX12_behind_26 rfl rfl ?_
      refine j_cV C l_X12_343 [.int v2] [.ref (G.1 + 84)] (fun u2 => some (.int u2)) (fun _ => h) (fun u2 => [.int u2, .ref (G.1 + 84)]) n_84 hm (fun l u hu => c_Mod_kindOf hu) rfl (Nat.le_of_ble_eq_true rfl) rfl (Nat.le_of_ble_eq_true rfl) (Nat.le_of_ble_eq_true rfl) (fun _ => rfl) dX12_behind_27 (fun u2 hm => ?_)
      refine j_iload_n C 4 dX12_behind_30 rfl rfl ?_
      refine j_iload C 6 dX12_behind_31 rfl ?_
      refine j_cS C l_X12_351 [.int v3, .int v5] [.int u2, .ref (G.1 + 84)] (fun u3 => some (.int u3)) (fun _ => h) (fun u3 => [.int u3, .int u2, .ref (G.1 + 84)]) hm (fun l u hu => c_Mod_minuteOf hu) rfl (Nat.le_of_ble_eq_true rfl) rfl (Nat.le_of_ble_eq_true rfl) (Nat.le_of_ble_eq_true rfl) (fun _ => rfl) dX12_behind_33 (fun u3 hm => ?_)
      refine j_cV C l_X12_340 [.int u2, .int u3] [] (fun u4 => some (.int u4)) (fun _ => h) (fun u4 => [.int u4]) n_84 hm (fun l u hu => c_Mod_flowAt hu) rfl (Nat.le_of_ble_eq_true rfl) rfl (Nat.le_of_ble_eq_true rfl) (Nat.le_of_ble_eq_true rfl) (fun _ => rfl) dX12_behind_36 (fun u4 hm => ?_)
      refine j_istore C [(7, .int u4), (6, .int u1), (0, .ref (G.1 + 84)), (1, .int v1), (2, .int v2), (3, .int v3), (4, .int v4), (5, .int v5)] dX12_behind_39 (by decide) rfl ?_
      refine j_aload_n C 2 dX12_behind_41 rfl rfl ?_
      refine j_gS C f_X12_20 n_84 q_84_3 dX12_behind_42 ?_
      refine j_bipush C 91 dX12_behind_45 (by decide) ?_
      refine j_iconst C 2 dX12_behind_47 (by decide) ?_
      refine j_iload_n C 3 dX12_behind_48 rfl rfl ?_
      refine j_imul C dX12_behind_49 ?_
      refine j_iadd C dX12_behind_50 ?_
      refine j_iald C n_86 hm dX12_behind_51 (fun hm => ?_)
      refine j_nmI hm (fun x5 hm => ?_)
      refine j_istore C [(8, .int x5), (7, .int u4), (6, .int u1), (0, .ref (G.1 + 84)), (1, .int v1), (2, .int v2), (3, .int v3), (4, .int v4), (5, .int v5)] dX12_behind_52 (by decide) rfl ?_
      refine j_iload C 7 dX12_behind_54 rfl ?_
      refine j_iconst C 1 dX12_behind_56 (by decide) ?_
      refine j_if_icmpne C 82 dX12_behind_57 (by decide) hm (fun hm => ?_) (fun hm => ?_)
      · refine j_iload C 0 dX12_behind_60 rfl ?_
        refine j_iload C 1 dX12_behind_62 rfl ?_
        refine j_iadd C dX12_behind_64 ?_
        refine j_aload_n C 3 dX12_behind_65 rfl rfl ?_
        refine j_bipush C 6 dX12_behind_66 (by decide) ?_
        refine j_cV C l_X12_283 [.int ((6 : Int32))] [.int (x5 + u4)] (fun u8 => some (.int u8)) (fun _ => h) (fun u8 => [.int u8, .int (x5 + u4)]) n_84 hm (fun l u hu => c_Mod_term hu) rfl (Nat.le_of_ble_eq_true rfl) rfl (Nat.le_of_ble_eq_true rfl) (Nat.le_of_ble_eq_true rfl) (fun _ => rfl) dX12_behind_68 (fun u8 hm => ?_)
        refine j_if_icmplt C 78 dX12_behind_71 (by decide) hm (fun hm => ?_) (fun hm => ?_)
        · refine j_iconst C 0 dX12_behind_78 (by decide) ?_
          refine j_goto C 125 dX12_behind_79 (by decide) ?_
          refine j_sub (L' := [(0, .ref (G.1 + 84)), (1, .int v1), (3, .int v3), (5, .int v5), (6, .int u1)]) [3, 4, 6, 8, 2] rfl ?_
          exact w_Mod_behind_125 C O hm
        · refine j_iconst C 1 dX12_behind_74 (by decide) ?_
          refine j_goto C 125 dX12_behind_75 (by decide) ?_
          refine j_sub (L' := [(0, .ref (G.1 + 84)), (1, .int v1), (3, .int v3), (5, .int v5), (6, .int u1)]) [3, 4, 6, 8, 2] rfl ?_
          exact w_Mod_behind_125 C O hm
      · refine j_iload C 7 dX12_behind_82 rfl ?_
        refine j_iconst C 2 dX12_behind_84 (by decide) ?_
        refine j_if_icmpne C 110 dX12_behind_85 (by decide) hm (fun hm => ?_) (fun hm => ?_)
        · refine j_iload C 0 dX12_behind_88 rfl ?_
          refine j_iload C 1 dX12_behind_90 rfl ?_
          refine j_isub C dX12_behind_92 ?_
          refine j_aload_n C 3 dX12_behind_93 rfl rfl ?_
          refine j_bipush C 6 dX12_behind_94 (by decide) ?_
          refine j_cV C l_X12_283 [.int ((6 : Int32))] [.int (x5 - u4)] (fun u7 => some (.int u7)) (fun _ => h) (fun u7 => [.int u7, .int (x5 - u4)]) n_84 hm (fun l u hu => c_Mod_term hu) rfl (Nat.le_of_ble_eq_true rfl) rfl (Nat.le_of_ble_eq_true rfl) (Nat.le_of_ble_eq_true rfl) (fun _ => rfl) dX12_behind_96 (fun u7 hm => ?_)
          refine j_if_icmplt C 106 dX12_behind_99 (by decide) hm (fun hm => ?_) (fun hm => ?_)
          · refine j_iconst C 0 dX12_behind_106 (by decide) ?_
            refine j_goto C 125 dX12_behind_107 (by decide) ?_
            refine j_sub (L' := [(0, .ref (G.1 + 84)), (1, .int v1), (3, .int v3), (5, .int v5), (6, .int u1)]) [3, 4, 6, 8, 2] rfl ?_
            exact w_Mod_behind_125 C O hm
          · refine j_iconst C 1 dX12_behind_102 (by decide) ?_
            refine j_goto C 125 dX12_behind_103 (by decide) ?_
            refine j_sub (L' := [(0, .ref (G.1 + 84)), (1, .int v1), (3, .int v3), (5, .int v5), (6, .int u1)]) [3, 4, 6, 8, 2] rfl ?_
            exact w_Mod_behind_125 C O hm
        · refine j_iload C 1 dX12_behind_110 rfl ?_
          refine j_cS C l_X12_304 [.int u4] [] (fun u6 => some (.int u6)) (fun _ => h) (fun u6 => [.int u6]) hm (fun l u hu => c_Mod_size hu) rfl (Nat.le_of_ble_eq_true rfl) rfl (Nat.le_of_ble_eq_true rfl) (Nat.le_of_ble_eq_true rfl) (fun _ => rfl) dX12_behind_112 (fun u6 hm => ?_)
          refine j_iload C 0 dX12_behind_115 rfl ?_
          refine j_if_icmpgt C 124 dX12_behind_117 (by decide) hm (fun hm => ?_) (fun hm => ?_)
          · refine j_iconst C 0 dX12_behind_124 (by decide) ?_
            refine j_sub (L' := [(0, .ref (G.1 + 84)), (1, .int v1), (3, .int v3), (5, .int v5), (6, .int u1)]) [3, 4, 6, 8, 2] rfl ?_
            exact w_Mod_behind_125 C O hm
          · refine j_iconst C 1 dX12_behind_120 (by decide) ?_
            refine j_goto C 125 dX12_behind_121 (by decide) ?_
            refine j_sub (L' := [(0, .ref (G.1 + 84)), (1, .int v1), (3, .int v3), (5, .int v5), (6, .int u1)]) [3, 4, 6, 8, 2] rfl ?_
            exact w_Mod_behind_125 C O hm
    · refine j_sub (L' := []) [] rfl ?_
      exact w_Mod_behind_22 C O hm
theorem c_Mod_behind {G : jG} {l : Launch} {v1 : Int32} {v2 : Int32} {v3 : Int32} {v4 : Int32} {v5 : Int32} {h : Hp} {out : Int32} (hm : s_Mod_behind v1 v2 v3 v4 v5 h = some out) : mt G l yX12_behind cX12_behind 10 (some .int) 3 114 [.ref (G.1 + 84), .int v1, .int v2, .int v3, .int v4, .int v5] h (some (.int out)) h :=
  mt_of (by decide) (Nat.le_of_ble_eq_true rfl) _ rfl (fun X I C O => w_Mod_behind C O hm)
noncomputable def s_Mod_boat_21 (h : Hp) : Option (Int32 × Hp) :=
  (s_Mod_refuses ((-1 : Int32)) h).bind fun u1 => some (u1.1, u1.2)
noncomputable def s_Mod_boat (v1 : Int32) (v2 : Int32) (h : Hp) : Option (Int32 × Hp) :=
  (s_Mod_lies v1 ((1 : Int32)) ((1500 : Int32)) h).bind fun u1 => if u1 = 0 then
    s_Mod_boat_21 h
  else
    (s_Mod_lies v2 ((0 : Int32)) ((99 : Int32)) h).bind fun u2 => if u2 = 0 then
      s_Mod_boat_21 h
    else
      ib ((185 : Int32)) 4998 <| if (hI h 86 (ix ((185 : Int32)))) = ((6 : Int32)) then
        (s_Mod_refuses ((-5 : Int32)) h).bind fun u6 => some (u6.1, u6.2)
      else
        ib (((91 : Int32)) + (((2 : Int32)) * (hI h 86 (ix ((185 : Int32)))))) 4998 <| lt (sI h 86 (ix (((91 : Int32)) + (((2 : Int32)) * (hI h 86 (ix ((185 : Int32))))))) v1) fun h3 => ib ((((91 : Int32)) + (((2 : Int32)) * (hI h 86 (ix ((185 : Int32)))))) + ((1 : Int32))) 4998 <| lt (sI h3 86 (ix ((((91 : Int32)) + (((2 : Int32)) * (hI h 86 (ix ((185 : Int32)))))) + ((1 : Int32)))) v2) fun h4 => ib ((185 : Int32)) 4998 <| ib ((185 : Int32)) 4998 <| (s_Mod_good (hI h 86 (ix ((185 : Int32)))) (sI h4 86 (ix ((185 : Int32))) ((hI h4 86 (ix ((185 : Int32)))) + ((1 : Int32))))).bind fun u5 => some (u5.1, u5.2)
def O_Mod_boat (G : jG) (X : jX) (out : (Int32 × Hp)) : Prop := jO G X (some .int) (some (.int out.1)) out.2
theorem w_Mod_boat_21 {G : jG} {X : jX} (C : jC G X cX12_boat 4 RX12 2 92) {h : Hp} {out : (Int32 × Hp)} (O : (O_Mod_boat G X) out) (hm : s_Mod_boat_21 h = some out) : J G X 21 [(0, .ref (G.1 + 84))] [] h := by
  unfold s_Mod_boat_21 at hm
  refine j_aload_n C 0 dX12_boat_21 rfl rfl ?_
  refine j_iconst C (-1 : Int32) dX12_boat_22 (by decide) ?_
  refine j_cV C l_X12_117 [.int ((-1 : Int32))] [] (fun u1 => some (.int u1.1)) (fun u1 => u1.2) (fun u1 => [.int u1.1]) n_84 hm (fun l u hu => c_Mod_refuses hu) rfl (Nat.le_of_ble_eq_true rfl) rfl (Nat.le_of_ble_eq_true rfl) (Nat.le_of_ble_eq_true rfl) (fun _ => rfl) dX12_boat_23 (fun u1 hm => ?_)
  obtain rfl := Option.some.inj hm
  exact j_iret C O dX12_boat_26
theorem w_Mod_boat {G : jG} {X : jX} (C : jC G X cX12_boat 4 RX12 2 92) {v1 : Int32} {v2 : Int32} {h : Hp} {out : (Int32 × Hp)} (O : (O_Mod_boat G X) out) (hm : s_Mod_boat v1 v2 h = some out) : J G X 0 [(0, .ref (G.1 + 84)), (1, .int v1), (2, .int v2)] [] h := by
  unfold s_Mod_boat at hm
  refine j_iload_n C 1 dX12_boat_0 rfl rfl ?_
  refine j_iconst C 1 dX12_boat_1 (by decide) ?_
  refine j_sipush C 1500 dX12_boat_2 (by decide) ?_
  refine j_cS C l_X12_113 [.int v1, .int ((1 : Int32)), .int ((1500 : Int32))] [] (fun u1 => some (.int u1)) (fun _ => h) (fun u1 => [.int u1]) hm (fun l u hu => c_Mod_lies hu) rfl (Nat.le_of_ble_eq_true rfl) rfl (Nat.le_of_ble_eq_true rfl) (Nat.le_of_ble_eq_true rfl) (fun _ => rfl) dX12_boat_5 (fun u1 hm => ?_)
  refine j_ifeq C 21 dX12_boat_8 (by decide) hm (fun hm => ?_) (fun hm => ?_)
  · refine j_sub (L' := [(0, .ref (G.1 + 84))]) [0] rfl ?_
    exact w_Mod_boat_21 C O hm
  · refine j_iload_n C 2 dX12_boat_11 rfl rfl ?_
    refine j_iconst C 0 dX12_boat_12 (by decide) ?_
    refine j_bipush C 99 dX12_boat_13 (by decide) ?_
    refine j_cS C l_X12_113 [.int v2, .int ((0 : Int32)), .int ((99 : Int32))] [] (fun u2 => some (.int u2)) (fun _ => h) (fun u2 => [.int u2]) hm (fun l u hu => c_Mod_lies hu) rfl (Nat.le_of_ble_eq_true rfl) rfl (Nat.le_of_ble_eq_true rfl) (Nat.le_of_ble_eq_true rfl) (fun _ => rfl) dX12_boat_15 (fun u2 hm => ?_)
    refine j_ifne C 27 dX12_boat_18 (by decide) hm (fun hm => ?_) (fun hm => ?_)
    · refine j_sub (L' := [(0, .ref (G.1 + 84))]) [0] rfl ?_
      exact w_Mod_boat_21 C O hm
    · refine j_aload_n C 0 dX12_boat_27 rfl rfl ?_
      refine j_gS C f_X12_20 n_84 q_84_3 dX12_boat_28 ?_
      refine j_sipush C 185 dX12_boat_31 (by decide) ?_
      refine j_iald C n_86 hm dX12_boat_34 (fun hm => ?_)
      refine j_istore_n C [(3, .int (hI h 86 (ix ((185 : Int32))))), (0, .ref (G.1 + 84)), (1, .int v1), (2, .int v2)] dX12_boat_35 rfl (by decide) rfl ?_
      refine j_iload_n C 0 dX12_boat_36 rfl rfl ?_
      refine j_bipush C 6 dX12_boat_37 (by decide) ?_
      refine j_if_icmpne C 49 dX12_boat_39 (by decide) hm (fun hm => ?_) (fun hm => ?_)
      · refine j_aload_n C 1 dX12_boat_42 rfl rfl ?_
        refine j_bipush C (-5 : Int32) dX12_boat_43 (by decide) ?_
        refine j_cV C l_X12_117 [.int ((-5 : Int32))] [] (fun u6 => some (.int u6.1)) (fun u6 => u6.2) (fun u6 => [.int u6.1]) n_84 hm (fun l u hu => c_Mod_refuses hu) rfl (Nat.le_of_ble_eq_true rfl) rfl (Nat.le_of_ble_eq_true rfl) (Nat.le_of_ble_eq_true rfl) (fun _ => rfl) dX12_boat_45 (fun u6 hm => ?_)
        obtain rfl := Option.some.inj hm
        exact j_iret C O dX12_boat_48
      · refine j_aload_n C 1 dX12_boat_49 rfl rfl ?_
        refine j_gS C f_X12_20 n_84 q_84_3 dX12_boat_50 ?_
        refine j_bipush C 91 dX12_boat_53 (by decide) ?_
        refine j_iconst C 2 dX12_boat_55 (by decide) ?_
        refine j_iload_n C 0 dX12_boat_56 rfl rfl ?_
        refine j_imul C dX12_boat_57 ?_
        refine j_iadd C dX12_boat_58 ?_
        refine j_iload_n C 2 dX12_boat_59 rfl rfl ?_
        refine j_iast C n_86 hm dX12_boat_60 (fun hm => ?_)
        refine j_aload_n C 1 dX12_boat_61 rfl rfl ?_
        refine j_nmH hm (fun h3 hm => ?_)
        refine j_gS C f_X12_20 n_84 q_84_3 dX12_boat_62 ?_
        refine j_bipush C 91 dX12_boat_65 (by decide) ?_
        refine j_iconst C 2 dX12_boat_67 (by decide) ?_
        refine j_iload_n C 0 dX12_boat_68 rfl rfl ?_
        refine j_imul C dX12_boat_69 ?_
        refine j_iadd C dX12_boat_70 ?_
        refine j_iconst C 1 dX12_boat_71 (by decide) ?_
        refine j_iadd C dX12_boat_72 ?_
        refine j_iload_n C 3 dX12_boat_73 rfl rfl ?_
        refine j_iast C n_86 hm dX12_boat_74 (fun hm => ?_)
        refine j_aload_n C 1 dX12_boat_75 rfl rfl ?_
        refine j_nmH hm (fun h4 hm => ?_)
        refine j_gS C f_X12_20 n_84 q_84_3 dX12_boat_76 ?_
        refine j_sipush C 185 dX12_boat_79 (by decide) ?_
        refine j_dup2_11 C dX12_boat_82 rfl rfl ?_
        refine j_iald C n_86 hm dX12_boat_83 (fun hm => ?_)
        refine j_iconst C 1 dX12_boat_84 (by decide) ?_
        refine j_iadd C dX12_boat_85 ?_
        refine j_iast C n_86 hm dX12_boat_86 (fun hm => ?_)
        refine j_aload_n C 1 dX12_boat_87 rfl rfl ?_
        refine j_iload_n C 0 dX12_boat_88 rfl rfl ?_
        refine j_cV C l_X12_121 [.int (hI h 86 (ix ((185 : Int32))))] [] (fun u5 => some (.int u5.1)) (fun u5 => u5.2) (fun u5 => [.int u5.1]) n_84 hm (fun l u hu => c_Mod_good hu) rfl (Nat.le_of_ble_eq_true rfl) rfl (Nat.le_of_ble_eq_true rfl) (Nat.le_of_ble_eq_true rfl) (fun _ => rfl) dX12_boat_89 (fun u5 hm => ?_)
        obtain rfl := Option.some.inj hm
        exact j_iret C O dX12_boat_92
theorem c_Mod_boat {G : jG} {l : Launch} {v1 : Int32} {v2 : Int32} {h : Hp} {out : (Int32 × Hp)} (hm : s_Mod_boat v1 v2 h = some out) : mt G l yX12_boat cX12_boat 4 (some .int) 2 92 [.ref (G.1 + 84), .int v1, .int v2] h (some (.int out.1)) out.2 :=
  mt_of (by decide) (Nat.le_of_ble_eq_true rfl) _ rfl (fun X I C O => w_Mod_boat C O hm)
noncomputable def s_Mod_isBoat (v1 : Int32) (h : Hp) : Option Int32 :=
  ib ((185 : Int32)) 4998 <| (s_Mod_lies v1 ((0 : Int32)) ((hI h 86 (ix ((185 : Int32)))) - ((1 : Int32))) h).bind fun u1 => bz u1 <| some (u1)
def O_Mod_isBoat (G : jG) (X : jX) (h : Hp) (out : Int32) : Prop := jO G X (some .boolean) (some (.int out)) h
theorem w_Mod_isBoat {G : jG} {X : jX} (C : jC G X cX12_isBoat 2 RX12 2 92) {v1 : Int32} {h : Hp} {out : Int32} (O : (O_Mod_isBoat G X h) out) (hm : s_Mod_isBoat v1 h = some out) : J G X 0 [(0, .ref (G.1 + 84)), (1, .int v1)] [] h := by
  unfold s_Mod_isBoat at hm
  refine j_iload_n C 1 dX12_isBoat_0 rfl rfl ?_
  refine j_iconst C 0 dX12_isBoat_1 (by decide) ?_
  refine j_aload_n C 0 dX12_isBoat_2 rfl rfl ?_
  refine j_gS C f_X12_20 n_84 q_84_3 dX12_isBoat_3 ?_
  refine j_sipush C 185 dX12_isBoat_6 (by decide) ?_
  refine j_iald C n_86 hm dX12_isBoat_9 (fun hm => ?_)
  refine j_iconst C 1 dX12_isBoat_10 (by decide) ?_
  refine j_isub C dX12_isBoat_11 ?_
  refine j_cS C l_X12_113 [.int v1, .int ((0 : Int32)), .int ((hI h 86 (ix ((185 : Int32)))) - ((1 : Int32)))] [] (fun u1 => some (.int u1)) (fun _ => h) (fun u1 => [.int u1]) hm (fun l u hu => c_Mod_lies hu) rfl (Nat.le_of_ble_eq_true rfl) rfl (Nat.le_of_ble_eq_true rfl) (Nat.le_of_ble_eq_true rfl) (fun _ => rfl) dX12_isBoat_12 (fun u1 hm => ?_)
  obtain ⟨cz, hm⟩ := bz_inv hm
  obtain rfl := Option.some.inj hm
  exact j_zret C O cz dX12_isBoat_15
theorem c_Mod_isBoat {G : jG} {l : Launch} {v1 : Int32} {h : Hp} {out : Int32} (hm : s_Mod_isBoat v1 h = some out) : mt G l yX12_isBoat cX12_isBoat 2 (some .boolean) 2 92 [.ref (G.1 + 84), .int v1] h (some (.int out)) h :=
  mt_of (by decide) (Nat.le_of_ble_eq_true rfl) _ rfl (fun X I C O => w_Mod_isBoat C O hm)
noncomputable def s_Mod_isCell (v0 : Int32) (h : Hp) : Option Int32 :=
  (s_Mod_lies v0 ((0 : Int32)) ((49 : Int32)) h).bind fun u1 => bz u1 <| some (u1)
def O_Mod_isCell (G : jG) (X : jX) (h : Hp) (out : Int32) : Prop := jO G X (some .boolean) (some (.int out)) h
theorem w_Mod_isCell {G : jG} {X : jX} (C : jC G X cX12_isCell 1 RX12 2 92) {v0 : Int32} {h : Hp} {out : Int32} (O : (O_Mod_isCell G X h) out) (hm : s_Mod_isCell v0 h = some out) : J G X 0 [(0, .int v0)] [] h := by
  unfold s_Mod_isCell at hm
  refine j_iload_n C 0 dX12_isCell_0 rfl rfl ?_
  refine j_iconst C 0 dX12_isCell_1 (by decide) ?_
  refine j_bipush C 49 dX12_isCell_2 (by decide) ?_
  refine j_cS C l_X12_113 [.int v0, .int ((0 : Int32)), .int ((49 : Int32))] [] (fun u1 => some (.int u1)) (fun _ => h) (fun u1 => [.int u1]) hm (fun l u hu => c_Mod_lies hu) rfl (Nat.le_of_ble_eq_true rfl) rfl (Nat.le_of_ble_eq_true rfl) (Nat.le_of_ble_eq_true rfl) (fun _ => rfl) dX12_isCell_4 (fun u1 hm => ?_)
  obtain ⟨cz, hm⟩ := bz_inv hm
  obtain rfl := Option.some.inj hm
  exact j_zret C O cz dX12_isCell_7
theorem c_Mod_isCell {G : jG} {l : Launch} {v0 : Int32} {h : Hp} {out : Int32} (hm : s_Mod_isCell v0 h = some out) : mt G l yX12_isCell cX12_isCell 1 (some .boolean) 2 92 [.int v0] h (some (.int out)) h :=
  mt_of (by decide) (Nat.le_of_ble_eq_true rfl) _ rfl (fun X I C O => w_Mod_isCell C O hm)
noncomputable def s_Mod_isStep (v0 : Int32) (h : Hp) : Option Int32 :=
  (s_Mod_lies v0 ((0 : Int32)) ((143 : Int32)) h).bind fun u1 => bz u1 <| some (u1)
def O_Mod_isStep (G : jG) (X : jX) (h : Hp) (out : Int32) : Prop := jO G X (some .boolean) (some (.int out)) h
theorem w_Mod_isStep {G : jG} {X : jX} (C : jC G X cX12_isStep 1 RX12 2 92) {v0 : Int32} {h : Hp} {out : Int32} (O : (O_Mod_isStep G X h) out) (hm : s_Mod_isStep v0 h = some out) : J G X 0 [(0, .int v0)] [] h := by
  unfold s_Mod_isStep at hm
  refine j_iload_n C 0 dX12_isStep_0 rfl rfl ?_
  refine j_iconst C 0 dX12_isStep_1 (by decide) ?_
  refine j_sipush C 143 dX12_isStep_2 (by decide) ?_
  refine j_cS C l_X12_113 [.int v0, .int ((0 : Int32)), .int ((143 : Int32))] [] (fun u1 => some (.int u1)) (fun _ => h) (fun u1 => [.int u1]) hm (fun l u hu => c_Mod_lies hu) rfl (Nat.le_of_ble_eq_true rfl) rfl (Nat.le_of_ble_eq_true rfl) (Nat.le_of_ble_eq_true rfl) (fun _ => rfl) dX12_isStep_5 (fun u1 hm => ?_)
  obtain ⟨cz, hm⟩ := bz_inv hm
  obtain rfl := Option.some.inj hm
  exact j_zret C O cz dX12_isStep_8
theorem c_Mod_isStep {G : jG} {l : Launch} {v0 : Int32} {h : Hp} {out : Int32} (hm : s_Mod_isStep v0 h = some out) : mt G l yX12_isStep cX12_isStep 1 (some .boolean) 2 92 [.int v0] h (some (.int out)) h :=
  mt_of (by decide) (Nat.le_of_ble_eq_true rfl) _ rfl (fun X I C O => w_Mod_isStep C O hm)
noncomputable def s_Mod_isWay_35 (s0 : Int32) (h : Hp) : Option Int32 :=
  bz s0 <| some (s0)
noncomputable def s_Mod_isWay_34 (h : Hp) : Option Int32 :=
  s_Mod_isWay_35 ((0 : Int32)) h
noncomputable def s_Mod_isWay (v1 : Int32) (v2 : Int32) (v3 : Int32) (v4 : Int32) (h : Hp) : Option Int32 :=
  (s_Mod_isBoat v1 h).bind fun u1 => if u1 = 0 then
    s_Mod_isWay_34 h
  else
    (s_Mod_isStep v2 h).bind fun u2 => if u2 = 0 then
      s_Mod_isWay_34 h
    else
      (s_Mod_isCell v3 h).bind fun u3 => if u3 = 0 then
        s_Mod_isWay_34 h
      else
        (s_Mod_isCell v4 h).bind fun u4 => if u4 = 0 then
          s_Mod_isWay_34 h
        else
          s_Mod_isWay_35 ((1 : Int32)) h
def O_Mod_isWay (G : jG) (X : jX) (h : Hp) (out : Int32) : Prop := jO G X (some .boolean) (some (.int out)) h
theorem w_Mod_isWay_35 {G : jG} {X : jX} (C : jC G X cX12_isWay 5 RX12 3 113) {s0 : Int32} {h : Hp} {out : Int32} (O : (O_Mod_isWay G X h) out) (hm : s_Mod_isWay_35 s0 h = some out) : J G X 35 [] [.int s0] h := by
  unfold s_Mod_isWay_35 at hm
  obtain ⟨cz, hm⟩ := bz_inv hm
  obtain rfl := Option.some.inj hm
  exact j_zret C O cz dX12_isWay_35
theorem w_Mod_isWay_34 {G : jG} {X : jX} (C : jC G X cX12_isWay 5 RX12 3 113) {h : Hp} {out : Int32} (O : (O_Mod_isWay G X h) out) (hm : s_Mod_isWay_34 h = some out) : J G X 34 [] [] h := by
  unfold s_Mod_isWay_34 at hm
  refine j_iconst C 0 dX12_isWay_34 (by decide) ?_
  refine j_sub (L' := []) [] rfl ?_
  exact w_Mod_isWay_35 C O hm
theorem w_Mod_isWay {G : jG} {X : jX} (C : jC G X cX12_isWay 5 RX12 3 113) {v1 : Int32} {v2 : Int32} {v3 : Int32} {v4 : Int32} {h : Hp} {out : Int32} (O : (O_Mod_isWay G X h) out) (hm : s_Mod_isWay v1 v2 v3 v4 h = some out) : J G X 0 [(0, .ref (G.1 + 84)), (1, .int v1), (2, .int v2), (3, .int v3), (4, .int v4)] [] h := by
  unfold s_Mod_isWay at hm
  refine j_aload_n C 0 dX12_isWay_0 rfl rfl ?_
  refine j_iload_n C 1 dX12_isWay_1 rfl rfl ?_
  refine j_cV C l_X12_361 [.int v1] [] (fun u1 => some (.int u1)) (fun _ => h) (fun u1 => [.int u1]) n_84 hm (fun l u hu => c_Mod_isBoat hu) rfl (Nat.le_of_ble_eq_true rfl) rfl (Nat.le_of_ble_eq_true rfl) (Nat.le_of_ble_eq_true rfl) (fun _ => rfl) dX12_isWay_2 (fun u1 hm => ?_)
  refine j_ifeq C 34 dX12_isWay_5 (by decide) hm (fun hm => ?_) (fun hm => ?_)
  · refine j_sub (L' := []) [] rfl ?_
    exact w_Mod_isWay_34 C O hm
  · refine j_iload_n C 2 dX12_isWay_8 rfl rfl ?_
    refine j_cS C l_X12_364 [.int v2] [] (fun u2 => some (.int u2)) (fun _ => h) (fun u2 => [.int u2]) hm (fun l u hu => c_Mod_isStep hu) rfl (Nat.le_of_ble_eq_true rfl) rfl (Nat.le_of_ble_eq_true rfl) (Nat.le_of_ble_eq_true rfl) (fun _ => rfl) dX12_isWay_9 (fun u2 hm => ?_)
    refine j_ifeq C 34 dX12_isWay_12 (by decide) hm (fun hm => ?_) (fun hm => ?_)
    · refine j_sub (L' := []) [] rfl ?_
      exact w_Mod_isWay_34 C O hm
    · refine j_iload_n C 3 dX12_isWay_15 rfl rfl ?_
      refine j_cS C l_X12_334 [.int v3] [] (fun u3 => some (.int u3)) (fun _ => h) (fun u3 => [.int u3]) hm (fun l u hu => c_Mod_isCell hu) rfl (Nat.le_of_ble_eq_true rfl) rfl (Nat.le_of_ble_eq_true rfl) (Nat.le_of_ble_eq_true rfl) (fun _ => rfl) dX12_isWay_16 (fun u3 hm => ?_)
      refine j_ifeq C 34 dX12_isWay_19 (by decide) hm (fun hm => ?_) (fun hm => ?_)
      · refine j_sub (L' := []) [] rfl ?_
        exact w_Mod_isWay_34 C O hm
      · refine j_iload C 4 dX12_isWay_22 rfl ?_
        refine j_cS C l_X12_334 [.int v4] [] (fun u4 => some (.int u4)) (fun _ => h) (fun u4 => [.int u4]) hm (fun l u hu => c_Mod_isCell hu) rfl (Nat.le_of_ble_eq_true rfl) rfl (Nat.le_of_ble_eq_true rfl) (Nat.le_of_ble_eq_true rfl) (fun _ => rfl) dX12_isWay_24 (fun u4 hm => ?_)
        refine j_ifeq C 34 dX12_isWay_27 (by decide) hm (fun hm => ?_) (fun hm => ?_)
        · refine j_sub (L' := []) [] rfl ?_
          exact w_Mod_isWay_34 C O hm
        · refine j_iconst C 1 dX12_isWay_30 (by decide) ?_
          refine j_goto C 35 dX12_isWay_31 (by decide) ?_
          refine j_sub (L' := []) [] rfl ?_
          exact w_Mod_isWay_35 C O hm
theorem c_Mod_isWay {G : jG} {l : Launch} {v1 : Int32} {v2 : Int32} {v3 : Int32} {v4 : Int32} {h : Hp} {out : Int32} (hm : s_Mod_isWay v1 v2 v3 v4 h = some out) : mt G l yX12_isWay cX12_isWay 5 (some .boolean) 3 113 [.ref (G.1 + 84), .int v1, .int v2, .int v3, .int v4] h (some (.int out)) h :=
  mt_of (by decide) (Nat.le_of_ble_eq_true rfl) _ rfl (fun X I C O => w_Mod_isWay C O hm)
noncomputable def s_Mod_calmest_81 (v1 : Int32) (v2 : Int32) (v3 : Int32) (v4 : Int32) (v5 : Int32) (s0 : Int32) (s1 : Int32) (h : Hp) : Option ((Int32 × Int32 × Int32 × Int32 × Int32 × Hp) ⊕ (Int32 × Hp)) :=
  ib s1 50 <| some (.inl (v1, v2, v3, v4, (v5 + (1 : Int32)), (sI h 102 (ix s1) s0)))
noncomputable def s_Mod_calmest_79 (v1 : Int32) (v2 : Int32) (v3 : Int32) (v4 : Int32) (v5 : Int32) (s0 : Int32) (h : Hp) : Option ((Int32 × Int32 × Int32 × Int32 × Int32 × Hp) ⊕ (Int32 × Hp)) :=
  s_Mod_calmest_81 v1 v2 v3 v4 v5 ((1000000 : Int32)) s0 h
noncomputable def s_Mod_calmest_253 (v1 : Int32) (v4 : Int32) (v5 : Int32) (v6 : Int32) (v7 : Int32) (h : Hp) : Option ((Int32 × Int32 × Int32 × Int32 × Int32 × Hp) ⊕ ((Int32 × Int32 × Int32 × Int32 × Hp) ⊕ (Int32 × Hp))) :=
  some (.inl (v1, v4, v5, v6, (v7 + (1 : Int32)), h))
noncomputable def s_Mod_calmest_247 (v1 : Int32) (v4 : Int32) (v5 : Int32) (v6 : Int32) (v7 : Int32) (v8 : Int32) (h : Hp) : Option ((Int32 × Int32 × Int32 × Int32 × Int32 × Int32 × Hp) ⊕ ((Int32 × Int32 × Int32 × Int32 × Int32 × Hp) ⊕ ((Int32 × Int32 × Int32 × Int32 × Hp) ⊕ (Int32 × Hp)))) :=
  some (.inl (v1, v4, v5, v6, v7, (v8 + (1 : Int32)), h))
noncomputable def s_Mod_calmest_163 (v1 : Int32) (v4 : Int32) (v5 : Int32) (v6 : Int32) (v7 : Int32) (v8 : Int32) (h : Hp) : Option ((Int32 × Int32 × Int32 × Int32 × Int32 × Int32 × Hp) ⊕ ((Int32 × Int32 × Int32 × Int32 × Int32 × Hp) ⊕ ((Int32 × Int32 × Int32 × Int32 × Hp) ⊕ (Int32 × Hp)))) :=
  if ((5 : Int32)) ≤ v8 then
    inr (s_Mod_calmest_253 v1 v4 v5 v6 v7 h)
  else
    (s_Mod_behind v1 v7 v6 v8 ((0 : Int32)) h).bind fun u1 => if u1 = ((-1 : Int32)) then
      s_Mod_calmest_247 v1 v4 v5 v6 v7 v8 h
    else
      ib v7 50 <| (s_Mod_kindOf u1 h).bind fun u2 => (s_Mod_minuteOf (v6 + ((1 : Int32))) ((0 : Int32)) h).bind fun u3 => ib ((((1440 : Int32)) * u2) + u3) 8640 <| lt ((hI h 102 (ix v7)) + (hI h 99 (ix ((((1440 : Int32)) * u2) + u3)))) fun x4 => ib u1 50 <| if (hI h 103 (ix u1)) ≤ x4 then
        s_Mod_calmest_247 v1 v4 v5 v6 v7 v8 h
      else
        ib u1 50 <| s_Mod_calmest_247 v1 v4 v5 v6 v7 v8 (sI h 103 (ix u1) x4)
noncomputable def s_Mod_calmest_310 (v1 : Int32) (v4 : Int32) (v5 : Int32) (v6 : Int32) (h : Hp) : Option ((Int32 × Int32 × Int32 × Int32 × Hp) ⊕ (Int32 × Hp)) :=
  some (.inl (v1, v4, v5, (v6 + (1 : Int32)), h))
noncomputable def s_Mod_calmest_262 (v1 : Int32) (v4 : Int32) (v5 : Int32) (v6 : Int32) (v7 : Int32) (h : Hp) : Option ((Int32 × Int32 × Int32 × Int32 × Int32 × Hp) ⊕ ((Int32 × Int32 × Int32 × Int32 × Hp) ⊕ (Int32 × Hp))) :=
  if ((50 : Int32)) ≤ v7 then
    ib v4 50 <| if v5 ≤ (hI h 102 (ix v4)) then
      inr (s_Mod_calmest_310 v1 v4 v5 v6 h)
    else
      ib v4 50 <| inr (s_Mod_calmest_310 v1 v4 (hI h 102 (ix v4)) v6 h)
  else
    ib v7 50 <| ib v7 50 <| some (.inl (v1, v4, v5, v6, (v7 + (1 : Int32)), (sI h 102 (ix v7) (hI h 103 (ix v7)))))
noncomputable def s_Mod_calmest_138 (v1 : Int32) (v4 : Int32) (v5 : Int32) (v6 : Int32) (v7 : Int32) (h : Hp) : Option ((Int32 × Int32 × Int32 × Int32 × Int32 × Hp) ⊕ ((Int32 × Int32 × Int32 × Int32 × Hp) ⊕ (Int32 × Hp))) :=
  if ((50 : Int32)) ≤ v7 then
    inr (lp (fun q => s_Mod_calmest_262 q.1 q.2.1 q.2.2.1 q.2.2.2.1 q.2.2.2.2.1 q.2.2.2.2.2) (v1, v4, v5, v6, ((0 : Int32)), h))
  else
    ib v7 50 <| if (hI h 102 (ix v7)) = ((1000000 : Int32)) then
      s_Mod_calmest_253 v1 v4 v5 v6 v7 h
    else
      lp (fun q => s_Mod_calmest_163 q.1 q.2.1 q.2.2.1 q.2.2.2.1 q.2.2.2.2.1 q.2.2.2.2.2.1 q.2.2.2.2.2.2) (v1, v4, v5, v6, v7, ((0 : Int32)), h)
noncomputable def s_Mod_calmest_113 (v1 : Int32) (v4 : Int32) (v5 : Int32) (v6 : Int32) (v7 : Int32) (h : Hp) : Option ((Int32 × Int32 × Int32 × Int32 × Int32 × Hp) ⊕ ((Int32 × Int32 × Int32 × Int32 × Hp) ⊕ (Int32 × Hp))) :=
  if ((50 : Int32)) ≤ v7 then
    inr (lp (fun q => s_Mod_calmest_138 q.1 q.2.1 q.2.2.1 q.2.2.2.1 q.2.2.2.2.1 q.2.2.2.2.2) (v1, v4, v5, v6, ((0 : Int32)), h))
  else
    ib v7 50 <| some (.inl (v1, v4, v5, v6, (v7 + (1 : Int32)), (sI h 103 (ix v7) ((1000000 : Int32)))))
noncomputable def s_Mod_calmest_329 (s0 : Int32) (h : Hp) : Option (Int32 × Hp) :=
  some (s0, h)
noncomputable def s_Mod_calmest_100 (v1 : Int32) (v4 : Int32) (v5 : Int32) (v6 : Int32) (h : Hp) : Option ((Int32 × Int32 × Int32 × Int32 × Hp) ⊕ (Int32 × Hp)) :=
  if ((144 : Int32)) ≤ (v6 + ((1 : Int32))) then
    if v5 = ((1000000 : Int32)) then
      inr (s_Mod_calmest_329 ((-1 : Int32)) h)
    else
      inr (s_Mod_calmest_329 v5 h)
  else
    lp (fun q => s_Mod_calmest_113 q.1 q.2.1 q.2.2.1 q.2.2.2.1 q.2.2.2.2.1 q.2.2.2.2.2) (v1, v4, v5, v6, ((0 : Int32)), h)
noncomputable def s_Mod_calmest_21 (v1 : Int32) (v2 : Int32) (v3 : Int32) (v4 : Int32) (v5 : Int32) (h : Hp) : Option ((Int32 × Int32 × Int32 × Int32 × Int32 × Hp) ⊕ (Int32 × Hp)) :=
  if ((50 : Int32)) ≤ v5 then
    ib v4 50 <| inr (lp (fun q => s_Mod_calmest_100 q.1 q.2.1 q.2.2.1 q.2.2.2.1 q.2.2.2.2) (v1, v4, (hI h 102 (ix v4)), v2, h))
  else
    if v5 = v3 then
      (s_Mod_minuteOf v2 ((0 : Int32)) h).bind fun u1 => (s_Mod_canBe v1 v5 u1 h).bind fun u2 => if u2 = 0 then
        s_Mod_calmest_79 v1 v2 v3 v4 v5 v5 h
      else
        (s_Mod_kindOf v5 h).bind fun u3 => (s_Mod_minuteOf v2 ((0 : Int32)) h).bind fun u4 => ib ((((1440 : Int32)) * u3) + u4) 8640 <| s_Mod_calmest_81 v1 v2 v3 v4 v5 (hI h 99 (ix ((((1440 : Int32)) * u3) + u4))) v5 h
    else
      s_Mod_calmest_79 v1 v2 v3 v4 v5 v5 h
noncomputable def s_Mod_calmest (v1 : Int32) (v2 : Int32) (v3 : Int32) (v4 : Int32) (h : Hp) : Option (Int32 × Hp) :=
  (s_Mod_isWay v1 v2 v3 v4 h).bind fun u1 => if u1 = 0 then
    some ((-1 : Int32), h)
  else
    (s_Mod_looks h).bind fun u2 => lp (fun q => s_Mod_calmest_21 q.1 q.2.1 q.2.2.1 q.2.2.2.1 q.2.2.2.2.1 q.2.2.2.2.2) (v1, v2, v3, v4, ((0 : Int32)), u2)
def O_Mod_calmest (G : jG) (X : jX) (out : (Int32 × Hp)) : Prop := jO G X (some .int) (some (.int out.1)) out.2
def P_Mod_calmest_21 (G : jG) (X : jX) (q : Int32 × Int32 × Int32 × Int32 × Int32 × Hp) : Prop := J G X 21 [(0, .ref (G.1 + 84)), (1, .int q.1), (2, .int q.2.1), (3, .int q.2.2.1), (4, .int q.2.2.2.1), (5, .int q.2.2.2.2.1)] [] q.2.2.2.2.2
def O_Mod_calmest_21 (G : jG) (X : jX) (t : ((Int32 × Int32 × Int32 × Int32 × Int32 × Hp) ⊕ (Int32 × Hp))) : Prop := Sum.elim (P_Mod_calmest_21 G X) (O_Mod_calmest G X) t
def P_Mod_calmest_100 (G : jG) (X : jX) (q : Int32 × Int32 × Int32 × Int32 × Hp) : Prop := J G X 100 [(0, .ref (G.1 + 84)), (1, .int q.1), (4, .int q.2.1), (5, .int q.2.2.1), (6, .int q.2.2.2.1)] [] q.2.2.2.2
def O_Mod_calmest_100 (G : jG) (X : jX) (t : ((Int32 × Int32 × Int32 × Int32 × Hp) ⊕ (Int32 × Hp))) : Prop := Sum.elim (P_Mod_calmest_100 G X) (O_Mod_calmest G X) t
def P_Mod_calmest_113 (G : jG) (X : jX) (q : Int32 × Int32 × Int32 × Int32 × Int32 × Hp) : Prop := J G X 113 [(0, .ref (G.1 + 84)), (1, .int q.1), (4, .int q.2.1), (5, .int q.2.2.1), (6, .int q.2.2.2.1), (7, .int q.2.2.2.2.1)] [] q.2.2.2.2.2
def O_Mod_calmest_113 (G : jG) (X : jX) (t : ((Int32 × Int32 × Int32 × Int32 × Int32 × Hp) ⊕ ((Int32 × Int32 × Int32 × Int32 × Hp) ⊕ (Int32 × Hp)))) : Prop := Sum.elim (P_Mod_calmest_113 G X) (O_Mod_calmest_100 G X) t
def P_Mod_calmest_138 (G : jG) (X : jX) (q : Int32 × Int32 × Int32 × Int32 × Int32 × Hp) : Prop := J G X 138 [(0, .ref (G.1 + 84)), (1, .int q.1), (4, .int q.2.1), (5, .int q.2.2.1), (6, .int q.2.2.2.1), (7, .int q.2.2.2.2.1)] [] q.2.2.2.2.2
def O_Mod_calmest_138 (G : jG) (X : jX) (t : ((Int32 × Int32 × Int32 × Int32 × Int32 × Hp) ⊕ ((Int32 × Int32 × Int32 × Int32 × Hp) ⊕ (Int32 × Hp)))) : Prop := Sum.elim (P_Mod_calmest_138 G X) (O_Mod_calmest_100 G X) t
def P_Mod_calmest_163 (G : jG) (X : jX) (q : Int32 × Int32 × Int32 × Int32 × Int32 × Int32 × Hp) : Prop := J G X 163 [(0, .ref (G.1 + 84)), (1, .int q.1), (4, .int q.2.1), (5, .int q.2.2.1), (6, .int q.2.2.2.1), (7, .int q.2.2.2.2.1), (8, .int q.2.2.2.2.2.1)] [] q.2.2.2.2.2.2
def O_Mod_calmest_163 (G : jG) (X : jX) (t : ((Int32 × Int32 × Int32 × Int32 × Int32 × Int32 × Hp) ⊕ ((Int32 × Int32 × Int32 × Int32 × Int32 × Hp) ⊕ ((Int32 × Int32 × Int32 × Int32 × Hp) ⊕ (Int32 × Hp))))) : Prop := Sum.elim (P_Mod_calmest_163 G X) (O_Mod_calmest_138 G X) t
def P_Mod_calmest_262 (G : jG) (X : jX) (q : Int32 × Int32 × Int32 × Int32 × Int32 × Hp) : Prop := J G X 262 [(0, .ref (G.1 + 84)), (1, .int q.1), (4, .int q.2.1), (5, .int q.2.2.1), (6, .int q.2.2.2.1), (7, .int q.2.2.2.2.1)] [] q.2.2.2.2.2
def O_Mod_calmest_262 (G : jG) (X : jX) (t : ((Int32 × Int32 × Int32 × Int32 × Int32 × Hp) ⊕ ((Int32 × Int32 × Int32 × Int32 × Hp) ⊕ (Int32 × Hp)))) : Prop := Sum.elim (P_Mod_calmest_262 G X) (O_Mod_calmest_100 G X) t
theorem w_Mod_calmest_81 {G : jG} {X : jX} (C : jC G X cX12_calmest 11 RX12 179 4679) {v1 : Int32} {v2 : Int32} {v3 : Int32} {v4 : Int32} {v5 : Int32} {s0 : Int32} {s1 : Int32} {h : Hp} {out : ((Int32 × Int32 × Int32 × Int32 × Int32 × Hp) ⊕ (Int32 × Hp))} (O : (O_Mod_calmest_21 G X) out) (hm : s_Mod_calmest_81 v1 v2 v3 v4 v5 s0 s1 h = some out) : J G X 81 [(0, .ref (G.1 + 84)), (1, .int v1), (2, .int v2), (3, .int v3), (4, .int v4), (5, .int v5)] [.int s0, .int s1, .ref (G.1 + 102)] h := by
  unfold s_Mod_calmest_81 at hm
  refine j_iast C n_102 hm dX12_calmest_81 (fun hm => ?_)
  refine j_iinc C 5 [(5, .int (v5 + (1 : Int32))), (0, .ref (G.1 + 84)), (1, .int v1), (2, .int v2), (3, .int v3), (4, .int v4)] dX12_calmest_82 rfl (add_lit (by decide)) (by decide) rfl ?_
  refine j_goto C 21 dX12_calmest_85 (by decide) ?_
  obtain rfl := Option.some.inj hm
  refine j_sub (L' := [(0, .ref (G.1 + 84)), (1, .int v1), (2, .int v2), (3, .int v3), (4, .int v4), (5, .int (v5 + (1 : Int32)))]) [1, 2, 3, 4, 5, 0] rfl ?_
  exact O
theorem w_Mod_calmest_79 {G : jG} {X : jX} (C : jC G X cX12_calmest 11 RX12 179 4679) {v1 : Int32} {v2 : Int32} {v3 : Int32} {v4 : Int32} {v5 : Int32} {s0 : Int32} {h : Hp} {out : ((Int32 × Int32 × Int32 × Int32 × Int32 × Hp) ⊕ (Int32 × Hp))} (O : (O_Mod_calmest_21 G X) out) (hm : s_Mod_calmest_79 v1 v2 v3 v4 v5 s0 h = some out) : J G X 79 [(0, .ref (G.1 + 84)), (1, .int v1), (2, .int v2), (3, .int v3), (4, .int v4), (5, .int v5)] [.int s0, .ref (G.1 + 102)] h := by
  unfold s_Mod_calmest_79 at hm
  refine j_ldc C wd_1564 dX12_calmest_79 ?_
  refine j_sub (L' := [(0, .ref (G.1 + 84)), (1, .int v1), (2, .int v2), (3, .int v3), (4, .int v4), (5, .int v5)]) [0, 1, 2, 3, 4, 5] rfl ?_
  exact w_Mod_calmest_81 C O hm
theorem w_Mod_calmest_253 {G : jG} {X : jX} (C : jC G X cX12_calmest 11 RX12 179 4679) {v1 : Int32} {v4 : Int32} {v5 : Int32} {v6 : Int32} {v7 : Int32} {h : Hp} {out : ((Int32 × Int32 × Int32 × Int32 × Int32 × Hp) ⊕ ((Int32 × Int32 × Int32 × Int32 × Hp) ⊕ (Int32 × Hp)))} (O : (O_Mod_calmest_138 G X) out) (hm : s_Mod_calmest_253 v1 v4 v5 v6 v7 h = some out) : J G X 253 [(0, .ref (G.1 + 84)), (1, .int v1), (4, .int v4), (5, .int v5), (6, .int v6), (7, .int v7)] [] h := by
  unfold s_Mod_calmest_253 at hm
  refine j_iinc C 5 [(7, .int (v7 + (1 : Int32))), (0, .ref (G.1 + 84)), (1, .int v1), (4, .int v4), (5, .int v5), (6, .int v6)] dX12_calmest_253 rfl (add_lit (by decide)) (by decide) rfl ?_
  refine j_goto C 138 dX12_calmest_256 (by decide) ?_
  obtain rfl := Option.some.inj hm
  refine j_sub (L' := [(0, .ref (G.1 + 84)), (1, .int v1), (4, .int v4), (5, .int v5), (6, .int v6), (7, .int (v7 + (1 : Int32)))]) [1, 2, 3, 4, 5, 0] rfl ?_
  exact O
theorem w_Mod_calmest_247 {G : jG} {X : jX} (C : jC G X cX12_calmest 11 RX12 179 4679) {v1 : Int32} {v4 : Int32} {v5 : Int32} {v6 : Int32} {v7 : Int32} {v8 : Int32} {h : Hp} {out : ((Int32 × Int32 × Int32 × Int32 × Int32 × Int32 × Hp) ⊕ ((Int32 × Int32 × Int32 × Int32 × Int32 × Hp) ⊕ ((Int32 × Int32 × Int32 × Int32 × Hp) ⊕ (Int32 × Hp))))} (O : (O_Mod_calmest_163 G X) out) (hm : s_Mod_calmest_247 v1 v4 v5 v6 v7 v8 h = some out) : J G X 247 [(0, .ref (G.1 + 84)), (1, .int v1), (4, .int v4), (5, .int v5), (6, .int v6), (7, .int v7), (8, .int v8)] [] h := by
  unfold s_Mod_calmest_247 at hm
  refine j_iinc C 6 [(8, .int (v8 + (1 : Int32))), (0, .ref (G.1 + 84)), (1, .int v1), (4, .int v4), (5, .int v5), (6, .int v6), (7, .int v7)] dX12_calmest_247 rfl (add_lit (by decide)) (by decide) rfl ?_
  refine j_goto C 163 dX12_calmest_250 (by decide) ?_
  obtain rfl := Option.some.inj hm
  refine j_sub (L' := [(0, .ref (G.1 + 84)), (1, .int v1), (4, .int v4), (5, .int v5), (6, .int v6), (7, .int v7), (8, .int (v8 + (1 : Int32)))]) [1, 2, 3, 4, 5, 6, 0] rfl ?_
  exact O
theorem w_Mod_calmest_163 {G : jG} {X : jX} (C : jC G X cX12_calmest 11 RX12 179 4679) {v1 : Int32} {v4 : Int32} {v5 : Int32} {v6 : Int32} {v7 : Int32} {v8 : Int32} {h : Hp} {out : ((Int32 × Int32 × Int32 × Int32 × Int32 × Int32 × Hp) ⊕ ((Int32 × Int32 × Int32 × Int32 × Int32 × Hp) ⊕ ((Int32 × Int32 × Int32 × Int32 × Hp) ⊕ (Int32 × Hp))))} (O : (O_Mod_calmest_163 G X) out) (hm : s_Mod_calmest_163 v1 v4 v5 v6 v7 v8 h = some out) : J G X 163 [(0, .ref (G.1 + 84)), (1, .int v1), (4, .int v4), (5, .int v5), (6, .int v6), (7, .int v7), (8, .int v8)] [] h := by
  unfold s_Mod_calmest_163 at hm
  refine j_iload C 6 dX12_calmest_163 rfl ?_
  refine j_iconst C 5 dX12_calmest_165 (by decide) ?_
  refine j_if_icmpge C 253 dX12_calmest_166 (by decide) hm (fun hm => ?_) (fun hm => ?_)
  · obtain ⟨o_0, hm_0, rfl⟩ := inr_inv hm
    refine j_sub (L' := [(0, .ref (G.1 + 84)), (1, .int v1), (4, .int v4), (5, .int v5), (6, .int v6), (7, .int v7)]) [0, 1, 2, 3, 4, 5] rfl ?_
    exact w_Mod_calmest_253 C O hm_0
  · refine j_aload_n C 0 dX12_calmest_169 rfl rfl ?_
    refine j_iload_n C 1 dX12_calmest_170 rfl rfl ?_
    refine j_iload C 5 dX12_calmest_171 rfl ?_
    refine j_iload C 4 dX12_calmest_173 rfl ?_
    refine j_iload C 6 dX12_calmest_175 rfl ?_
    refine j_iconst C 0 dX12_calmest_177 (by decide) ?_
    refine j_cV C l_X12_357 [.int v1, .int v7, .int v6, .int v8, .int ((0 : Int32))] [] (fun u1 => some (.int u1)) (fun _ => h) (fun u1 => [.int u1]) n_84 hm (fun l u hu => c_Mod_behind hu) rfl (Nat.le_of_ble_eq_true rfl) rfl (Nat.le_of_ble_eq_true rfl) (Nat.le_of_ble_eq_true rfl) (fun _ => rfl) dX12_calmest_178 (fun u1 hm => ?_)
    refine j_istore C [(9, .int u1), (0, .ref (G.1 + 84)), (1, .int v1), (4, .int v4), (5, .int v5), (6, .int v6), (7, .int v7), (8, .int v8)] dX12_calmest_181 (by decide) rfl ?_
    refine j_iload C 0 dX12_calmest_183 rfl ?_
    refine j_iconst C (-1 : Int32) dX12_calmest_185 (by decide) ?_
    refine j_if_icmpne C 192 dX12_calmest_186 (by decide) hm (fun hm => ?_) (fun hm => ?_)
    · refine j_goto C 247 dX12_calmest_189 (by decide) ?_
      refine j_sub (L' := [(0, .ref (G.1 + 84)), (1, .int v1), (4, .int v4), (5, .int v5), (6, .int v6), (7, .int v7), (8, .int v8)]) [1, 2, 3, 4, 5, 6, 7] rfl ?_
      exact w_Mod_calmest_247 C O hm
    · refine j_aload_n C 1 dX12_calmest_192 rfl rfl ?_
      refine j_gS C f_X12_76 n_84 q_84_32 dX12_calmest_193 ?_
      refine j_iload C 6 dX12_calmest_196 rfl ?_
      refine j_iald C n_102 hm dX12_calmest_198 (fun hm => ?_)
      refine j_aload_n C 1 dX12_calmest_199 rfl rfl ?_
      refine j_gS C f_X12_67 n_84 q_84_29 dX12_calmest_200 ?_
      refine j_sipush C 1440 dX12_calmest_203 (by decide) ?_
      refine j_aload_n C 1 dX12_calmest_206 rfl rfl ?_
      refine j_iload C 0 dX12_calmest_207 rfl ?_
      refine j_cV C l_X12_343 [.int u1] [.int ((1440 : Int32)), .ref (G.1 + 99), .int (hI h 102 (ix v7))] (fun u2 => some (.int u2)) (fun _ => h) (fun u2 => [.int u2, .int ((1440 : Int32)), .ref (G.1 + 99), .int (hI h 102 (ix v7))]) n_84 hm (fun l u hu => c_Mod_kindOf hu) rfl (Nat.le_of_ble_eq_true rfl) rfl (Nat.le_of_ble_eq_true rfl) (Nat.le_of_ble_eq_true rfl) (fun _ => rfl) dX12_calmest_209 (fun u2 hm => ?_)
      refine j_imul C dX12_calmest_212 ?_
      refine j_iload C 5 dX12_calmest_213 rfl ?_
      refine j_iconst C 1 dX12_calmest_215 (by decide) ?_
      refine j_iadd C dX12_calmest_216 ?_
      refine j_iconst C 0 dX12_calmest_217 (by decide) ?_
      refine j_cS C l_X12_351 [.int (v6 + ((1 : Int32))), .int ((0 : Int32))] [.int (((1440 : Int32)) * u2), .ref (G.1 + 99), .int (hI h 102 (ix v7))] (fun u3 => some (.int u3)) (fun _ => h) (fun u3 => [.int u3, .int (((1440 : Int32)) * u2), .ref (G.1 + 99), .int (hI h 102 (ix v7))]) hm (fun l u hu => c_Mod_minuteOf hu) rfl (Nat.le_of_ble_eq_true rfl) rfl (Nat.le_of_ble_eq_true rfl) (Nat.le_of_ble_eq_true rfl) (fun _ => rfl) dX12_calmest_218 (fun u3 hm => ?_)
      refine j_iadd C dX12_calmest_221 ?_
      refine j_bald C n_99 hm dX12_calmest_222 (fun hm => ?_)
      refine j_iadd C dX12_calmest_223 ?_
      refine j_nmI hm (fun x4 hm => ?_)
      refine j_istore C [(10, .int x4), (9, .int u1), (0, .ref (G.1 + 84)), (1, .int v1), (4, .int v4), (5, .int v5), (6, .int v6), (7, .int v7), (8, .int v8)] dX12_calmest_224 (by decide) rfl ?_
      refine j_iload C 0 dX12_calmest_226 rfl ?_
      refine j_aload_n C 2 dX12_calmest_228 rfl rfl ?_
      refine j_gS C f_X12_79 n_84 q_84_33 dX12_calmest_229 ?_
      refine j_iload C 1 dX12_calmest_232 rfl ?_
      refine j_iald C n_103 hm dX12_calmest_234 (fun hm => ?_)
      refine j_if_icmpge C 247 dX12_calmest_235 (by decide) hm (fun hm => ?_) (fun hm => ?_)
      · refine j_sub (L' := [(0, .ref (G.1 + 84)), (1, .int v1), (4, .int v4), (5, .int v5), (6, .int v6), (7, .int v7), (8, .int v8)]) [2, 3, 4, 5, 6, 7, 8] rfl ?_
        exact w_Mod_calmest_247 C O hm
      · refine j_aload_n C 2 dX12_calmest_238 rfl rfl ?_
        refine j_gS C f_X12_79 n_84 q_84_33 dX12_calmest_239 ?_
        refine j_iload C 1 dX12_calmest_242 rfl ?_
        refine j_iload C 0 dX12_calmest_244 rfl ?_
        refine j_iast C n_103 hm dX12_calmest_246 (fun hm => ?_)
        refine j_sub (L' := [(0, .ref (G.1 + 84)), (1, .int v1), (4, .int v4), (5, .int v5), (6, .int v6), (7, .int v7), (8, .int v8)]) [2, 3, 4, 5, 6, 7, 8] rfl ?_
        exact w_Mod_calmest_247 C O hm
theorem k_Mod_calmest_163 {G : jG} {X : jX} (C : jC G X cX12_calmest 11 RX12 179 4679) {v1 : Int32} {v4 : Int32} {v5 : Int32} {v6 : Int32} {v7 : Int32} {v8 : Int32} {h : Hp} {out : ((Int32 × Int32 × Int32 × Int32 × Int32 × Hp) ⊕ ((Int32 × Int32 × Int32 × Int32 × Hp) ⊕ (Int32 × Hp)))} (O : (O_Mod_calmest_138 G X) out) (hm : lp (fun q => s_Mod_calmest_163 q.1 q.2.1 q.2.2.1 q.2.2.2.1 q.2.2.2.2.1 q.2.2.2.2.2.1 q.2.2.2.2.2.2) (v1, v4, v5, v6, v7, v8, h) = some out) : J G X 163 [(0, .ref (G.1 + 84)), (1, .int v1), (4, .int v4), (5, .int v5), (6, .int v6), (7, .int v7), (8, .int v8)] [] h :=
  lp_ok (P := P_Mod_calmest_163 G X) (O := (O_Mod_calmest_138 G X)) (fun q r hm O => w_Mod_calmest_163 C O hm) hm O
theorem w_Mod_calmest_310 {G : jG} {X : jX} (C : jC G X cX12_calmest 11 RX12 179 4679) {v1 : Int32} {v4 : Int32} {v5 : Int32} {v6 : Int32} {h : Hp} {out : ((Int32 × Int32 × Int32 × Int32 × Hp) ⊕ (Int32 × Hp))} (O : (O_Mod_calmest_100 G X) out) (hm : s_Mod_calmest_310 v1 v4 v5 v6 h = some out) : J G X 310 [(0, .ref (G.1 + 84)), (1, .int v1), (4, .int v4), (5, .int v5), (6, .int v6)] [] h := by
  unfold s_Mod_calmest_310 at hm
  refine j_iinc C 4 [(6, .int (v6 + (1 : Int32))), (0, .ref (G.1 + 84)), (1, .int v1), (4, .int v4), (5, .int v5)] dX12_calmest_310 rfl (add_lit (by decide)) (by decide) rfl ?_
  refine j_goto C 100 dX12_calmest_313 (by decide) ?_
  obtain rfl := Option.some.inj hm
  refine j_sub (L' := [(0, .ref (G.1 + 84)), (1, .int v1), (4, .int v4), (5, .int v5), (6, .int (v6 + (1 : Int32)))]) [1, 2, 3, 4, 0] rfl ?_
  exact O
theorem w_Mod_calmest_262 {G : jG} {X : jX} (C : jC G X cX12_calmest 11 RX12 179 4679) {v1 : Int32} {v4 : Int32} {v5 : Int32} {v6 : Int32} {v7 : Int32} {h : Hp} {out : ((Int32 × Int32 × Int32 × Int32 × Int32 × Hp) ⊕ ((Int32 × Int32 × Int32 × Int32 × Hp) ⊕ (Int32 × Hp)))} (O : (O_Mod_calmest_262 G X) out) (hm : s_Mod_calmest_262 v1 v4 v5 v6 v7 h = some out) : J G X 262 [(0, .ref (G.1 + 84)), (1, .int v1), (4, .int v4), (5, .int v5), (6, .int v6), (7, .int v7)] [] h := by
  unfold s_Mod_calmest_262 at hm
  refine j_iload C 5 dX12_calmest_262 rfl ?_
  refine j_bipush C 50 dX12_calmest_264 (by decide) ?_
  refine j_if_icmpge C 289 dX12_calmest_266 (by decide) hm (fun hm => ?_) (fun hm => ?_)
  · refine j_aload_n C 0 dX12_calmest_289 rfl rfl ?_
    refine j_gS C f_X12_76 n_84 q_84_32 dX12_calmest_290 ?_
    refine j_iload C 2 dX12_calmest_293 rfl ?_
    refine j_iald C n_102 hm dX12_calmest_295 (fun hm => ?_)
    refine j_iload C 3 dX12_calmest_296 rfl ?_
    refine j_if_icmpge C 310 dX12_calmest_298 (by decide) hm (fun hm => ?_) (fun hm => ?_)
    · obtain ⟨o_0, hm_0, rfl⟩ := inr_inv hm
      refine j_sub (L' := [(0, .ref (G.1 + 84)), (1, .int v1), (4, .int v4), (5, .int v5), (6, .int v6)]) [0, 1, 2, 3, 4] rfl ?_
      exact w_Mod_calmest_310 C O hm_0
    · refine j_aload_n C 0 dX12_calmest_301 rfl rfl ?_
      refine j_gS C f_X12_76 n_84 q_84_32 dX12_calmest_302 ?_
      refine j_iload C 2 dX12_calmest_305 rfl ?_
      refine j_iald C n_102 hm dX12_calmest_307 (fun hm => ?_)
      refine j_istore C [(5, .int (hI h 102 (ix v4))), (0, .ref (G.1 + 84)), (1, .int v1), (4, .int v4), (6, .int v6), (7, .int v7)] dX12_calmest_308 (by decide) rfl ?_
      obtain ⟨o_0, hm_0, rfl⟩ := inr_inv hm
      refine j_sub (L' := [(0, .ref (G.1 + 84)), (1, .int v1), (4, .int v4), (5, .int (hI h 102 (ix v4))), (6, .int v6)]) [1, 2, 3, 0, 4] rfl ?_
      exact w_Mod_calmest_310 C O hm_0
  · refine j_aload_n C 0 dX12_calmest_269 rfl rfl ?_
    refine j_gS C f_X12_76 n_84 q_84_32 dX12_calmest_270 ?_
    refine j_iload C 5 dX12_calmest_273 rfl ?_
    refine j_aload_n C 0 dX12_calmest_275 rfl rfl ?_
    refine j_gS C f_X12_79 n_84 q_84_33 dX12_calmest_276 ?_
    refine j_iload C 5 dX12_calmest_279 rfl ?_
    refine j_iald C n_103 hm dX12_calmest_281 (fun hm => ?_)
    refine j_iast C n_102 hm dX12_calmest_282 (fun hm => ?_)
    refine j_iinc C 5 [(7, .int (v7 + (1 : Int32))), (0, .ref (G.1 + 84)), (1, .int v1), (4, .int v4), (5, .int v5), (6, .int v6)] dX12_calmest_283 rfl (add_lit (by decide)) (by decide) rfl ?_
    refine j_goto C 262 dX12_calmest_286 (by decide) ?_
    obtain rfl := Option.some.inj hm
    refine j_sub (L' := [(0, .ref (G.1 + 84)), (1, .int v1), (4, .int v4), (5, .int v5), (6, .int v6), (7, .int (v7 + (1 : Int32)))]) [1, 2, 3, 4, 5, 0] rfl ?_
    exact O
theorem k_Mod_calmest_262 {G : jG} {X : jX} (C : jC G X cX12_calmest 11 RX12 179 4679) {v1 : Int32} {v4 : Int32} {v5 : Int32} {v6 : Int32} {v7 : Int32} {h : Hp} {out : ((Int32 × Int32 × Int32 × Int32 × Hp) ⊕ (Int32 × Hp))} (O : (O_Mod_calmest_100 G X) out) (hm : lp (fun q => s_Mod_calmest_262 q.1 q.2.1 q.2.2.1 q.2.2.2.1 q.2.2.2.2.1 q.2.2.2.2.2) (v1, v4, v5, v6, v7, h) = some out) : J G X 262 [(0, .ref (G.1 + 84)), (1, .int v1), (4, .int v4), (5, .int v5), (6, .int v6), (7, .int v7)] [] h :=
  lp_ok (P := P_Mod_calmest_262 G X) (O := (O_Mod_calmest_100 G X)) (fun q r hm O => w_Mod_calmest_262 C O hm) hm O
theorem w_Mod_calmest_138 {G : jG} {X : jX} (C : jC G X cX12_calmest 11 RX12 179 4679) {v1 : Int32} {v4 : Int32} {v5 : Int32} {v6 : Int32} {v7 : Int32} {h : Hp} {out : ((Int32 × Int32 × Int32 × Int32 × Int32 × Hp) ⊕ ((Int32 × Int32 × Int32 × Int32 × Hp) ⊕ (Int32 × Hp)))} (O : (O_Mod_calmest_138 G X) out) (hm : s_Mod_calmest_138 v1 v4 v5 v6 v7 h = some out) : J G X 138 [(0, .ref (G.1 + 84)), (1, .int v1), (4, .int v4), (5, .int v5), (6, .int v6), (7, .int v7)] [] h := by
  unfold s_Mod_calmest_138 at hm
  refine j_iload C 5 dX12_calmest_138 rfl ?_
  refine j_bipush C 50 dX12_calmest_140 (by decide) ?_
  refine j_if_icmpge C 259 dX12_calmest_142 (by decide) hm (fun hm => ?_) (fun hm => ?_)
  · refine j_iconst C 0 dX12_calmest_259 (by decide) ?_
    refine j_istore C [(7, .int ((0 : Int32))), (0, .ref (G.1 + 84)), (1, .int v1), (4, .int v4), (5, .int v5), (6, .int v6)] dX12_calmest_260 (by decide) rfl ?_
    obtain ⟨o_0, hm_0, rfl⟩ := inr_inv hm
    refine j_sub (L' := [(0, .ref (G.1 + 84)), (1, .int v1), (4, .int v4), (5, .int v5), (6, .int v6), (7, .int ((0 : Int32)))]) [1, 2, 3, 4, 5, 0] rfl ?_
    exact k_Mod_calmest_262 C O hm_0
  · refine j_aload_n C 0 dX12_calmest_145 rfl rfl ?_
    refine j_gS C f_X12_76 n_84 q_84_32 dX12_calmest_146 ?_
    refine j_iload C 5 dX12_calmest_149 rfl ?_
    refine j_iald C n_102 hm dX12_calmest_151 (fun hm => ?_)
    refine j_ldc C wd_1564 dX12_calmest_152 ?_
    refine j_if_icmpne C 160 dX12_calmest_154 (by decide) hm (fun hm => ?_) (fun hm => ?_)
    · refine j_goto C 253 dX12_calmest_157 (by decide) ?_
      refine j_sub (L' := [(0, .ref (G.1 + 84)), (1, .int v1), (4, .int v4), (5, .int v5), (6, .int v6), (7, .int v7)]) [0, 1, 2, 3, 4, 5] rfl ?_
      exact w_Mod_calmest_253 C O hm
    · refine j_iconst C 0 dX12_calmest_160 (by decide) ?_
      refine j_istore C [(8, .int ((0 : Int32))), (0, .ref (G.1 + 84)), (1, .int v1), (4, .int v4), (5, .int v5), (6, .int v6), (7, .int v7)] dX12_calmest_161 (by decide) rfl ?_
      refine j_sub (L' := [(0, .ref (G.1 + 84)), (1, .int v1), (4, .int v4), (5, .int v5), (6, .int v6), (7, .int v7), (8, .int ((0 : Int32)))]) [1, 2, 3, 4, 5, 6, 0] rfl ?_
      exact k_Mod_calmest_163 C O hm
theorem k_Mod_calmest_138 {G : jG} {X : jX} (C : jC G X cX12_calmest 11 RX12 179 4679) {v1 : Int32} {v4 : Int32} {v5 : Int32} {v6 : Int32} {v7 : Int32} {h : Hp} {out : ((Int32 × Int32 × Int32 × Int32 × Hp) ⊕ (Int32 × Hp))} (O : (O_Mod_calmest_100 G X) out) (hm : lp (fun q => s_Mod_calmest_138 q.1 q.2.1 q.2.2.1 q.2.2.2.1 q.2.2.2.2.1 q.2.2.2.2.2) (v1, v4, v5, v6, v7, h) = some out) : J G X 138 [(0, .ref (G.1 + 84)), (1, .int v1), (4, .int v4), (5, .int v5), (6, .int v6), (7, .int v7)] [] h :=
  lp_ok (P := P_Mod_calmest_138 G X) (O := (O_Mod_calmest_100 G X)) (fun q r hm O => w_Mod_calmest_138 C O hm) hm O
theorem w_Mod_calmest_113 {G : jG} {X : jX} (C : jC G X cX12_calmest 11 RX12 179 4679) {v1 : Int32} {v4 : Int32} {v5 : Int32} {v6 : Int32} {v7 : Int32} {h : Hp} {out : ((Int32 × Int32 × Int32 × Int32 × Int32 × Hp) ⊕ ((Int32 × Int32 × Int32 × Int32 × Hp) ⊕ (Int32 × Hp)))} (O : (O_Mod_calmest_113 G X) out) (hm : s_Mod_calmest_113 v1 v4 v5 v6 v7 h = some out) : J G X 113 [(0, .ref (G.1 + 84)), (1, .int v1), (4, .int v4), (5, .int v5), (6, .int v6), (7, .int v7)] [] h := by
  unfold s_Mod_calmest_113 at hm
  refine j_iload C 5 dX12_calmest_113 rfl ?_
  refine j_bipush C 50 dX12_calmest_115 (by decide) ?_
  refine j_if_icmpge C 135 dX12_calmest_117 (by decide) hm (fun hm => ?_) (fun hm => ?_)
  · refine j_iconst C 0 dX12_calmest_135 (by decide) ?_
    refine j_istore C [(7, .int ((0 : Int32))), (0, .ref (G.1 + 84)), (1, .int v1), (4, .int v4), (5, .int v5), (6, .int v6)] dX12_calmest_136 (by decide) rfl ?_
    obtain ⟨o_0, hm_0, rfl⟩ := inr_inv hm
    refine j_sub (L' := [(0, .ref (G.1 + 84)), (1, .int v1), (4, .int v4), (5, .int v5), (6, .int v6), (7, .int ((0 : Int32)))]) [1, 2, 3, 4, 5, 0] rfl ?_
    exact k_Mod_calmest_138 C O hm_0
  · refine j_aload_n C 0 dX12_calmest_120 rfl rfl ?_
    refine j_gS C f_X12_79 n_84 q_84_33 dX12_calmest_121 ?_
    refine j_iload C 5 dX12_calmest_124 rfl ?_
    refine j_ldc C wd_1564 dX12_calmest_126 ?_
    refine j_iast C n_103 hm dX12_calmest_128 (fun hm => ?_)
    refine j_iinc C 5 [(7, .int (v7 + (1 : Int32))), (0, .ref (G.1 + 84)), (1, .int v1), (4, .int v4), (5, .int v5), (6, .int v6)] dX12_calmest_129 rfl (add_lit (by decide)) (by decide) rfl ?_
    refine j_goto C 113 dX12_calmest_132 (by decide) ?_
    obtain rfl := Option.some.inj hm
    refine j_sub (L' := [(0, .ref (G.1 + 84)), (1, .int v1), (4, .int v4), (5, .int v5), (6, .int v6), (7, .int (v7 + (1 : Int32)))]) [1, 2, 3, 4, 5, 0] rfl ?_
    exact O
theorem k_Mod_calmest_113 {G : jG} {X : jX} (C : jC G X cX12_calmest 11 RX12 179 4679) {v1 : Int32} {v4 : Int32} {v5 : Int32} {v6 : Int32} {v7 : Int32} {h : Hp} {out : ((Int32 × Int32 × Int32 × Int32 × Hp) ⊕ (Int32 × Hp))} (O : (O_Mod_calmest_100 G X) out) (hm : lp (fun q => s_Mod_calmest_113 q.1 q.2.1 q.2.2.1 q.2.2.2.1 q.2.2.2.2.1 q.2.2.2.2.2) (v1, v4, v5, v6, v7, h) = some out) : J G X 113 [(0, .ref (G.1 + 84)), (1, .int v1), (4, .int v4), (5, .int v5), (6, .int v6), (7, .int v7)] [] h :=
  lp_ok (P := P_Mod_calmest_113 G X) (O := (O_Mod_calmest_100 G X)) (fun q r hm O => w_Mod_calmest_113 C O hm) hm O
theorem w_Mod_calmest_329 {G : jG} {X : jX} (C : jC G X cX12_calmest 11 RX12 179 4679) {s0 : Int32} {h : Hp} {out : (Int32 × Hp)} (O : (O_Mod_calmest G X) out) (hm : s_Mod_calmest_329 s0 h = some out) : J G X 329 [] [.int s0] h := by
  unfold s_Mod_calmest_329 at hm
  obtain rfl := Option.some.inj hm
  exact j_iret C O dX12_calmest_329
theorem w_Mod_calmest_100 {G : jG} {X : jX} (C : jC G X cX12_calmest 11 RX12 179 4679) {v1 : Int32} {v4 : Int32} {v5 : Int32} {v6 : Int32} {h : Hp} {out : ((Int32 × Int32 × Int32 × Int32 × Hp) ⊕ (Int32 × Hp))} (O : (O_Mod_calmest_100 G X) out) (hm : s_Mod_calmest_100 v1 v4 v5 v6 h = some out) : J G X 100 [(0, .ref (G.1 + 84)), (1, .int v1), (4, .int v4), (5, .int v5), (6, .int v6)] [] h := by
  unfold s_Mod_calmest_100 at hm
  refine j_iload C 4 dX12_calmest_100 rfl ?_
  refine j_iconst C 1 dX12_calmest_102 (by decide) ?_
  refine j_iadd C dX12_calmest_103 ?_
  refine j_sipush C 144 dX12_calmest_104 (by decide) ?_
  refine j_if_icmpge C 316 dX12_calmest_107 (by decide) hm (fun hm => ?_) (fun hm => ?_)
  · refine j_iload C 3 dX12_calmest_316 rfl ?_
    refine j_ldc C wd_1564 dX12_calmest_318 ?_
    refine j_if_icmpne C 327 dX12_calmest_320 (by decide) hm (fun hm => ?_) (fun hm => ?_)
    · refine j_iconst C (-1 : Int32) dX12_calmest_323 (by decide) ?_
      refine j_goto C 329 dX12_calmest_324 (by decide) ?_
      obtain ⟨o_0, hm_0, rfl⟩ := inr_inv hm
      refine j_sub (L' := []) [] rfl ?_
      exact w_Mod_calmest_329 C O hm_0
    · refine j_iload C 3 dX12_calmest_327 rfl ?_
      obtain ⟨o_0, hm_0, rfl⟩ := inr_inv hm
      refine j_sub (L' := []) [] rfl ?_
      exact w_Mod_calmest_329 C O hm_0
  · refine j_iconst C 0 dX12_calmest_110 (by decide) ?_
    refine j_istore C [(7, .int ((0 : Int32))), (0, .ref (G.1 + 84)), (1, .int v1), (4, .int v4), (5, .int v5), (6, .int v6)] dX12_calmest_111 (by decide) rfl ?_
    refine j_sub (L' := [(0, .ref (G.1 + 84)), (1, .int v1), (4, .int v4), (5, .int v5), (6, .int v6), (7, .int ((0 : Int32)))]) [1, 2, 3, 4, 5, 0] rfl ?_
    exact k_Mod_calmest_113 C O hm
theorem k_Mod_calmest_100 {G : jG} {X : jX} (C : jC G X cX12_calmest 11 RX12 179 4679) {v1 : Int32} {v4 : Int32} {v5 : Int32} {v6 : Int32} {h : Hp} {out : (Int32 × Hp)} (O : (O_Mod_calmest G X) out) (hm : lp (fun q => s_Mod_calmest_100 q.1 q.2.1 q.2.2.1 q.2.2.2.1 q.2.2.2.2) (v1, v4, v5, v6, h) = some out) : J G X 100 [(0, .ref (G.1 + 84)), (1, .int v1), (4, .int v4), (5, .int v5), (6, .int v6)] [] h :=
  lp_ok (P := P_Mod_calmest_100 G X) (O := (O_Mod_calmest G X)) (fun q r hm O => w_Mod_calmest_100 C O hm) hm O
theorem w_Mod_calmest_21 {G : jG} {X : jX} (C : jC G X cX12_calmest 11 RX12 179 4679) {v1 : Int32} {v2 : Int32} {v3 : Int32} {v4 : Int32} {v5 : Int32} {h : Hp} {out : ((Int32 × Int32 × Int32 × Int32 × Int32 × Hp) ⊕ (Int32 × Hp))} (O : (O_Mod_calmest_21 G X) out) (hm : s_Mod_calmest_21 v1 v2 v3 v4 v5 h = some out) : J G X 21 [(0, .ref (G.1 + 84)), (1, .int v1), (2, .int v2), (3, .int v3), (4, .int v4), (5, .int v5)] [] h := by
  unfold s_Mod_calmest_21 at hm
  refine j_iload C 5 dX12_calmest_21 rfl ?_
  refine j_bipush C 50 dX12_calmest_23 (by decide) ?_
  refine j_if_icmpge C 88 dX12_calmest_25 (by decide) hm (fun hm => ?_) (fun hm => ?_)
  · refine j_aload_n C 0 dX12_calmest_88 rfl rfl ?_
    refine j_gS C f_X12_76 n_84 q_84_32 dX12_calmest_89 ?_
    refine j_iload C 4 dX12_calmest_92 rfl ?_
    refine j_iald C n_102 hm dX12_calmest_94 (fun hm => ?_)
    refine j_istore C [(5, .int (hI h 102 (ix v4))), (0, .ref (G.1 + 84)), (1, .int v1), (2, .int v2), (3, .int v3), (4, .int v4)] dX12_calmest_95 (by decide) rfl ?_
    refine j_iload_n C 3 dX12_calmest_97 rfl rfl ?_
    refine j_istore C [(6, .int v2), (5, .int (hI h 102 (ix v4))), (0, .ref (G.1 + 84)), (1, .int v1), (2, .int v2), (3, .int v3), (4, .int v4)] dX12_calmest_98 (by decide) rfl ?_
    obtain ⟨o_0, hm_0, rfl⟩ := inr_inv hm
    refine j_sub (L' := [(0, .ref (G.1 + 84)), (1, .int v1), (4, .int v4), (5, .int (hI h 102 (ix v4))), (6, .int v2)]) [2, 3, 6, 1, 0] rfl ?_
    exact k_Mod_calmest_100 C O hm_0
  · refine j_aload_n C 0 dX12_calmest_28 rfl rfl ?_
    refine j_gS C f_X12_76 n_84 q_84_32 dX12_calmest_29 ?_
    refine j_iload C 5 dX12_calmest_32 rfl ?_
    refine j_iload C 5 dX12_calmest_34 rfl ?_
    refine j_iload_n C 3 dX12_calmest_36 rfl rfl ?_
    refine j_if_icmpne C 79 dX12_calmest_37 (by decide) hm (fun hm => ?_) (fun hm => ?_)
    · refine j_aload_n C 0 dX12_calmest_40 rfl rfl ?_
      refine j_iload_n C 1 dX12_calmest_41 rfl rfl ?_
      refine j_iload C 5 dX12_calmest_42 rfl ?_
      refine j_iload_n C 2 dX12_calmest_44 rfl rfl ?_
      refine j_iconst C 0 dX12_calmest_45 (by decide) ?_
      refine j_cS C l_X12_351 [.int v2, .int ((0 : Int32))] [.int v5, .int v1, .ref (G.1 + 84), .int v5, .ref (G.1 + 102)] (fun u1 => some (.int u1)) (fun _ => h) (fun u1 => [.int u1, .int v5, .int v1, .ref (G.1 + 84), .int v5, .ref (G.1 + 102)]) hm (fun l u hu => c_Mod_minuteOf hu) rfl (Nat.le_of_ble_eq_true rfl) rfl (Nat.le_of_ble_eq_true rfl) (Nat.le_of_ble_eq_true rfl) (fun _ => rfl) dX12_calmest_46 (fun u1 hm => ?_)
      refine j_cV C l_X12_354 [.int v1, .int v5, .int u1] [.int v5, .ref (G.1 + 102)] (fun u2 => some (.int u2)) (fun _ => h) (fun u2 => [.int u2, .int v5, .ref (G.1 + 102)]) n_84 hm (fun l u hu => c_Mod_canBe hu) rfl (Nat.le_of_ble_eq_true rfl) rfl (Nat.le_of_ble_eq_true rfl) (Nat.le_of_ble_eq_true rfl) (fun _ => rfl) dX12_calmest_49 (fun u2 hm => ?_)
      refine j_ifeq C 79 dX12_calmest_52 (by decide) hm (fun hm => ?_) (fun hm => ?_)
      · refine j_sub (L' := [(0, .ref (G.1 + 84)), (1, .int v1), (2, .int v2), (3, .int v3), (4, .int v4), (5, .int v5)]) [0, 1, 2, 3, 4, 5] rfl ?_
        exact w_Mod_calmest_79 C O hm
      · refine j_aload_n C 0 dX12_calmest_55 rfl rfl ?_
        refine j_gS C f_X12_67 n_84 q_84_29 dX12_calmest_56 ?_
        refine j_sipush C 1440 dX12_calmest_59 (by decide) ?_
        refine j_aload_n C 0 dX12_calmest_62 rfl rfl ?_
        refine j_iload C 5 dX12_calmest_63 rfl ?_
        refine j_cV C l_X12_343 [.int v5] [.int ((1440 : Int32)), .ref (G.1 + 99), .int v5, .ref (G.1 + 102)] (fun u3 => some (.int u3)) (fun _ => h) (fun u3 => [.int u3, .int ((1440 : Int32)), .ref (G.1 + 99), .int v5, .ref (G.1 + 102)]) n_84 hm (fun l u hu => c_Mod_kindOf hu) rfl (Nat.le_of_ble_eq_true rfl) rfl (Nat.le_of_ble_eq_true rfl) (Nat.le_of_ble_eq_true rfl) (fun _ => rfl) dX12_calmest_65 (fun u3 hm => ?_)
        refine j_imul C dX12_calmest_68 ?_
        refine j_iload_n C 2 dX12_calmest_69 rfl rfl ?_
        refine j_iconst C 0 dX12_calmest_70 (by decide) ?_
        refine j_cS C l_X12_351 [.int v2, .int ((0 : Int32))] [.int (((1440 : Int32)) * u3), .ref (G.1 + 99), .int v5, .ref (G.1 + 102)] (fun u4 => some (.int u4)) (fun _ => h) (fun u4 => [.int u4, .int (((1440 : Int32)) * u3), .ref (G.1 + 99), .int v5, .ref (G.1 + 102)]) hm (fun l u hu => c_Mod_minuteOf hu) rfl (Nat.le_of_ble_eq_true rfl) rfl (Nat.le_of_ble_eq_true rfl) (Nat.le_of_ble_eq_true rfl) (fun _ => rfl) dX12_calmest_71 (fun u4 hm => ?_)
        refine j_iadd C dX12_calmest_74 ?_
        refine j_bald C n_99 hm dX12_calmest_75 (fun hm => ?_)
        refine j_goto C 81 dX12_calmest_76 (by decide) ?_
        refine j_sub (L' := [(0, .ref (G.1 + 84)), (1, .int v1), (2, .int v2), (3, .int v3), (4, .int v4), (5, .int v5)]) [0, 1, 2, 3, 4, 5] rfl ?_
        exact w_Mod_calmest_81 C O hm
    · refine j_sub (L' := [(0, .ref (G.1 + 84)), (1, .int v1), (2, .int v2), (3, .int v3), (4, .int v4), (5, .int v5)]) [0, 1, 2, 3, 4, 5] rfl ?_
      exact w_Mod_calmest_79 C O hm
theorem k_Mod_calmest_21 {G : jG} {X : jX} (C : jC G X cX12_calmest 11 RX12 179 4679) {v1 : Int32} {v2 : Int32} {v3 : Int32} {v4 : Int32} {v5 : Int32} {h : Hp} {out : (Int32 × Hp)} (O : (O_Mod_calmest G X) out) (hm : lp (fun q => s_Mod_calmest_21 q.1 q.2.1 q.2.2.1 q.2.2.2.1 q.2.2.2.2.1 q.2.2.2.2.2) (v1, v2, v3, v4, v5, h) = some out) : J G X 21 [(0, .ref (G.1 + 84)), (1, .int v1), (2, .int v2), (3, .int v3), (4, .int v4), (5, .int v5)] [] h :=
  lp_ok (P := P_Mod_calmest_21 G X) (O := (O_Mod_calmest G X)) (fun q r hm O => w_Mod_calmest_21 C O hm) hm O
theorem w_Mod_calmest {G : jG} {X : jX} (C : jC G X cX12_calmest 11 RX12 179 4679) {v1 : Int32} {v2 : Int32} {v3 : Int32} {v4 : Int32} {h : Hp} {out : (Int32 × Hp)} (O : (O_Mod_calmest G X) out) (hm : s_Mod_calmest v1 v2 v3 v4 h = some out) : J G X 0 [(0, .ref (G.1 + 84)), (1, .int v1), (2, .int v2), (3, .int v3), (4, .int v4)] [] h := by
  unfold s_Mod_calmest at hm
  refine j_aload_n C 0 dX12_calmest_0 rfl rfl ?_
  refine j_iload_n C 1 dX12_calmest_1 rfl rfl ?_
  refine j_iload_n C 2 dX12_calmest_2 rfl rfl ?_
  refine j_iload_n C 3 dX12_calmest_3 rfl rfl ?_
  refine j_iload C 4 dX12_calmest_4 rfl ?_
  refine j_cV C l_X12_367 [.int v1, .int v2, .int v3, .int v4] [] (fun u1 => some (.int u1)) (fun _ => h) (fun u1 => [.int u1]) n_84 hm (fun l u hu => c_Mod_isWay hu) rfl (Nat.le_of_ble_eq_true rfl) rfl (Nat.le_of_ble_eq_true rfl) (Nat.le_of_ble_eq_true rfl) (fun _ => rfl) dX12_calmest_6 (fun u1 hm => ?_)
  refine j_ifne C 14 dX12_calmest_9 (by decide) hm (fun hm => ?_) (fun hm => ?_)
  · refine j_iconst C (-1 : Int32) dX12_calmest_12 (by decide) ?_
    obtain rfl := Option.some.inj hm
    exact j_iret C O dX12_calmest_13
  · refine j_aload_n C 0 dX12_calmest_14 rfl rfl ?_
    refine j_cV C l_X12_321 [] [] (fun _ => none) (fun u2 => u2) (fun u2 => []) n_84 hm (fun l u hu => c_Mod_looks hu) rfl (Nat.le_of_ble_eq_true rfl) rfl (Nat.le_of_ble_eq_true rfl) (Nat.le_of_ble_eq_true rfl) (fun _ => rfl) dX12_calmest_15 (fun u2 hm => ?_)
    refine j_iconst C 0 dX12_calmest_18 (by decide) ?_
    refine j_istore C [(5, .int ((0 : Int32))), (0, .ref (G.1 + 84)), (1, .int v1), (2, .int v2), (3, .int v3), (4, .int v4)] dX12_calmest_19 (by decide) rfl ?_
    refine j_sub (L' := [(0, .ref (G.1 + 84)), (1, .int v1), (2, .int v2), (3, .int v3), (4, .int v4), (5, .int ((0 : Int32)))]) [1, 2, 3, 4, 5, 0] rfl ?_
    exact k_Mod_calmest_21 C O hm
theorem c_Mod_calmest {G : jG} {l : Launch} {v1 : Int32} {v2 : Int32} {v3 : Int32} {v4 : Int32} {h : Hp} {out : (Int32 × Hp)} (hm : s_Mod_calmest v1 v2 v3 v4 h = some out) : mt G l yX12_calmest cX12_calmest 11 (some .int) 179 4679 [.ref (G.1 + 84), .int v1, .int v2, .int v3, .int v4] h (some (.int out.1)) out.2 :=
  mt_of (by decide) (Nat.le_of_ble_eq_true rfl) _ rfl (fun X I C O => w_Mod_calmest C O hm)
