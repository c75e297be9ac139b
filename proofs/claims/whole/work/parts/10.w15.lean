noncomputable def s_Mod_ship_28 (h : Hp) : Option (Int32 × Hp) :=
  (s_Mod_refuses ((-1 : Int32)) h).bind fun u1 => some (u1.1, u1.2)
noncomputable def s_Mod_ship (v1 : Int32) (v2 : Int32) (v3 : Int32) (h : Hp) : Option (Int32 × Hp) :=
  (s_Mod_isMinute v1 h).bind fun u1 => if u1 = 0 then
    s_Mod_ship_28 h
  else
    (s_Mod_lies v2 ((1 : Int32)) ((120 : Int32)) h).bind fun u2 => if u2 = 0 then
      s_Mod_ship_28 h
    else
      (s_Mod_lies v3 ((0 : Int32)) ((2000 : Int32)) h).bind fun u3 => if u3 = 0 then
        s_Mod_ship_28 h
      else
        ib ((186 : Int32)) 4998 <| if (hI h 86 (ix ((186 : Int32)))) = ((6 : Int32)) then
          (s_Mod_refuses ((-5 : Int32)) h).bind fun u8 => some (u8.1, u8.2)
        else
          ib (((103 : Int32)) + (((3 : Int32)) * (hI h 86 (ix ((186 : Int32)))))) 4998 <| lt (sI h 86 (ix (((103 : Int32)) + (((3 : Int32)) * (hI h 86 (ix ((186 : Int32))))))) v1) fun h4 => ib ((((103 : Int32)) + (((3 : Int32)) * (hI h 86 (ix ((186 : Int32)))))) + ((1 : Int32))) 4998 <| lt (sI h4 86 (ix ((((103 : Int32)) + (((3 : Int32)) * (hI h 86 (ix ((186 : Int32)))))) + ((1 : Int32)))) v2) fun h5 => ib ((((103 : Int32)) + (((3 : Int32)) * (hI h 86 (ix ((186 : Int32)))))) + ((2 : Int32))) 4998 <| lt (sI h5 86 (ix ((((103 : Int32)) + (((3 : Int32)) * (hI h 86 (ix ((186 : Int32)))))) + ((2 : Int32)))) v3) fun h6 => ib ((186 : Int32)) 4998 <| ib ((186 : Int32)) 4998 <| (s_Mod_good (hI h 86 (ix ((186 : Int32)))) (sI h6 86 (ix ((186 : Int32))) ((hI h6 86 (ix ((186 : Int32)))) + ((1 : Int32))))).bind fun u7 => some (u7.1, u7.2)
def O_Mod_ship (G : jG) (X : jX) (out : (Int32 × Hp)) : Prop := jO G X (some .int) (some (.int out.1)) out.2
theorem w_Mod_ship_28 {G : jG} {X : jX} (C : jC G X cX12_ship 5 RX12 3 112) {h : Hp} {out : (Int32 × Hp)} (O : (O_Mod_ship G X) out) (hm : s_Mod_ship_28 h = some out) : J G X 28 [(0, .ref (G.1 + 84))] [] h := by
  unfold s_Mod_ship_28 at hm
  refine j_aload_n C 0 dX12_ship_28 rfl rfl ?_
  refine j_iconst C (-1 : Int32) dX12_ship_29 (by decide) ?_
  refine j_cV C l_X12_117 [.int ((-1 : Int32))] [] (fun u1 => some (.int u1.1)) (fun u1 => u1.2) (fun u1 => [.int u1.1]) n_84 hm (fun l u hu => c_Mod_refuses hu) rfl (Nat.le_of_ble_eq_true rfl) rfl (Nat.le_of_ble_eq_true rfl) (Nat.le_of_ble_eq_true rfl) (fun _ => rfl) dX12_ship_30 (fun u1 hm => ?_)
  obtain rfl := Option.some.inj hm
  exact j_iret C O dX12_ship_33
theorem w_Mod_ship {G : jG} {X : jX} (C : jC G X cX12_ship 5 RX12 3 112) {v1 : Int32} {v2 : Int32} {v3 : Int32} {h : Hp} {out : (Int32 × Hp)} (O : (O_Mod_ship G X) out) (hm : s_Mod_ship v1 v2 v3 h = some out) : J G X 0 [(0, .ref (G.1 + 84)), (1, .int v1), (2, .int v2), (3, .int v3)] [] h := by
  unfold s_Mod_ship at hm
  refine j_iload_n C 1 dX12_ship_0 rfl rfl ?_
  refine j_cS C l_X12_280 [.int v1] [] (fun u1 => some (.int u1)) (fun _ => h) (fun u1 => [.int u1]) hm (fun l u hu => c_Mod_isMinute hu) rfl (Nat.le_of_ble_eq_true rfl) rfl (Nat.le_of_ble_eq_true rfl) (Nat.le_of_ble_eq_true rfl) (fun _ => rfl) dX12_ship_1 (fun u1 hm => ?_)
  refine j_ifeq C 28 dX12_ship_4 (by decide) hm (fun hm => ?_) (fun hm => ?_)
  · refine j_sub (L' := [(0, .ref (G.1 + 84))]) [0] rfl ?_
    exact w_Mod_ship_28 C O hm
  · refine j_iload_n C 2 dX12_ship_7 rfl rfl ?_
    refine j_iconst C 1 dX12_ship_8 (by decide) ?_
    refine j_bipush C 120 dX12_ship_9 (by decide) ?_
    refine j_cS C l_X12_113 [.int v2, .int ((1 : Int32)), .int ((120 : Int32))] [] (fun u2 => some (.int u2)) (fun _ => h) (fun u2 => [.int u2]) hm (fun l u hu => c_Mod_lies hu) rfl (Nat.le_of_ble_eq_true rfl) rfl (Nat.le_of_ble_eq_true rfl) (Nat.le_of_ble_eq_true rfl) (fun _ => rfl) dX12_ship_11 (fun u2 hm => ?_)
    refine j_ifeq C 28 dX12_ship_14 (by decide) hm (fun hm => ?_) (fun hm => ?_)
    · refine j_sub (L' := [(0, .ref (G.1 + 84))]) [0] rfl ?_
      exact w_Mod_ship_28 C O hm
    · refine j_iload_n C 3 dX12_ship_17 rfl rfl ?_
      refine j_iconst C 0 dX12_ship_18 (by decide) ?_
      refine j_sipush C 2000 dX12_ship_19 (by decide) ?_
      refine j_cS C l_X12_113 [.int v3, .int ((0 : Int32)), .int ((2000 : Int32))] [] (fun u3 => some (.int u3)) (fun _ => h) (fun u3 => [.int u3]) hm (fun l u hu => c_Mod_lies hu) rfl (Nat.le_of_ble_eq_true rfl) rfl (Nat.le_of_ble_eq_true rfl) (Nat.le_of_ble_eq_true rfl) (fun _ => rfl) dX12_ship_22 (fun u3 hm => ?_)
      refine j_ifne C 34 dX12_ship_25 (by decide) hm (fun hm => ?_) (fun hm => ?_)
      · refine j_sub (L' := [(0, .ref (G.1 + 84))]) [0] rfl ?_
        exact w_Mod_ship_28 C O hm
      · refine j_aload_n C 0 dX12_ship_34 rfl rfl ?_
        refine j_gS C f_X12_20 n_84 q_84_3 dX12_ship_35 ?_
        refine j_sipush C 186 dX12_ship_38 (by decide) ?_
        refine j_iald C n_86 hm dX12_ship_41 (fun hm => ?_)
        refine j_istore C [(4, .int (hI h 86 (ix ((186 : Int32))))), (0, .ref (G.1 + 84)), (1, .int v1), (2, .int v2), (3, .int v3)] dX12_ship_42 (by decide) rfl ?_
        refine j_iload C 0 dX12_ship_44 rfl ?_
        refine j_bipush C 6 dX12_ship_46 (by decide) ?_
        refine j_if_icmpne C 58 dX12_ship_48 (by decide) hm (fun hm => ?_) (fun hm => ?_)
        · refine j_aload_n C 1 dX12_ship_51 rfl rfl ?_
          refine j_bipush C (-5 : Int32) dX12_ship_52 (by decide) ?_
          refine j_cV C l_X12_117 [.int ((-5 : Int32))] [] (fun u8 => some (.int u8.1)) (fun u8 => u8.2) (fun u8 => [.int u8.1]) n_84 hm (fun l u hu => c_Mod_refuses hu) rfl (Nat.le_of_ble_eq_true rfl) rfl (Nat.le_of_ble_eq_true rfl) (Nat.le_of_ble_eq_true rfl) (fun _ => rfl) dX12_ship_54 (fun u8 hm => ?_)
          obtain rfl := Option.some.inj hm
          exact j_iret C O dX12_ship_57
        · refine j_aload_n C 1 dX12_ship_58 rfl rfl ?_
          refine j_gS C f_X12_20 n_84 q_84_3 dX12_ship_59 ?_
          refine j_bipush C 103 dX12_ship_62 (by decide) ?_
          refine j_iconst C 3 dX12_ship_64 (by decide) ?_
          refine j_iload C 0 dX12_ship_65 rfl ?_
          refine j_imul C dX12_ship_67 ?_
          refine j_iadd C dX12_ship_68 ?_
          refine j_iload_n C 2 dX12_ship_69 rfl rfl ?_
          refine j_iast C n_86 hm dX12_ship_70 (fun hm => ?_)
          refine j_aload_n C 1 dX12_ship_71 rfl rfl ?_
          refine j_nmH hm (fun h4 hm => ?_)
          refine j_gS C f_X12_20 n_84 q_84_3 dX12_ship_72 ?_
          refine j_bipush C 103 dX12_ship_75 (by decide) ?_
          refine j_iconst C 3 dX12_ship_77 (by decide) ?_
          refine j_iload C 0 dX12_ship_78 rfl ?_
          refine j_imul C dX12_ship_80 ?_
          refine j_iadd C dX12_ship_81 ?_
          refine j_iconst C 1 dX12_ship_82 (by decide) ?_
          refine j_iadd C dX12_ship_83 ?_
          refine j_iload_n C 3 dX12_ship_84 rfl rfl ?_
          refine j_iast C n_86 hm dX12_ship_85 (fun hm => ?_)
          refine j_aload_n C 1 dX12_ship_86 rfl rfl ?_
          refine j_nmH hm (fun h5 hm => ?_)
          refine j_gS C f_X12_20 n_84 q_84_3 dX12_ship_87 ?_
          refine j_bipush C 103 dX12_ship_90 (by decide) ?_
          refine j_iconst C 3 dX12_ship_92 (by decide) ?_
          refine j_iload C 0 dX12_ship_93 rfl ?_
          refine j_imul C dX12_ship_95 ?_
          refine j_iadd C dX12_ship_96 ?_
          refine j_iconst C 2 dX12_ship_97 (by decide) ?_
          refine j_iadd C dX12_ship_98 ?_
          refine j_iload_n C 4 dX12_ship_99 rfl rfl ?_
          refine j_iast C n_86 hm dX12_ship_100 (fun hm => ?_)
          refine j_aload_n C 1 dX12_ship_101 rfl rfl ?_
          refine j_nmH hm (fun h6 hm => ?_)
          refine j_gS C f_X12_20 n_84 q_84_3 dX12_ship_102 ?_
          refine j_sipush C 186 dX12_ship_105 (by decide) ?_
          refine j_dup2_11 C dX12_ship_108 rfl rfl ?_
          refine j_iald C n_86 hm dX12_ship_109 (fun hm => ?_)
          refine j_iconst C 1 dX12_ship_110 (by decide) ?_
          refine j_iadd C dX12_ship_111 ?_
          refine j_iast C n_86 hm dX12_ship_112 (fun hm => ?_)
          refine j_aload_n C 1 dX12_ship_113 rfl rfl ?_
          refine j_iload C 0 dX12_ship_114 rfl ?_
          refine j_cV C l_X12_121 [.int (hI h 86 (ix ((186 : Int32))))] [] (fun u7 => some (.int u7.1)) (fun u7 => u7.2) (fun u7 => [.int u7.1]) n_84 hm (fun l u hu => c_Mod_good hu) rfl (Nat.le_of_ble_eq_true rfl) rfl (Nat.le_of_ble_eq_true rfl) (Nat.le_of_ble_eq_true rfl) (fun _ => rfl) dX12_ship_116 (fun u7 hm => ?_)
          obtain rfl := Option.some.inj hm
          exact j_iret C O dX12_ship_119
theorem c_Mod_ship {G : jG} {l : Launch} {v1 : Int32} {v2 : Int32} {v3 : Int32} {h : Hp} {out : (Int32 × Hp)} (hm : s_Mod_ship v1 v2 v3 h = some out) : mt G l yX12_ship cX12_ship 5 (some .int) 3 112 [.ref (G.1 + 84), .int v1, .int v2, .int v3] h (some (.int out.1)) out.2 :=
  mt_of (by decide) (Nat.le_of_ble_eq_true rfl) _ rfl (fun X I C O => w_Mod_ship C O hm)
noncomputable def s_Mod_slack_35 (s0 : Int32) (h : Hp) : Option (Int32 × Hp) :=
  some (s0, h)
noncomputable def s_Mod_slack_67 (h : Hp) : Option (Int32 × Hp) :=
  some ((-100000 : Int32), h)
noncomputable def s_Mod_slack_128 (v3 : Int32) (v4 : Int32) (h : Hp) : Option (Int32 × Hp) :=
  some (v4 - v3, h)
noncomputable def s_Mod_slack_96 (v3 : Int32) (v4 : Int32) (h : Hp) : Option ((Int32 × Int32 × Hp) ⊕ (Int32 × Hp)) :=
  if ((1440 : Int32)) ≤ v4 then
    inr (s_Mod_slack_128 v3 v4 h)
  else
    ib v4 1440 <| (s_Mod_size (hI h 97 (ix v4)) h).bind fun u1 => (s_Mod_term ((3 : Int32)) h).bind fun u2 => if u2 < u1 then
      inr (s_Mod_slack_128 v3 v4 h)
    else
      some (.inl (v3, (v4 + (1 : Int32)), h))
noncomputable def s_Mod_slack_177 (v3 : Int32) (v5 : Int32) (v6 : Int32) (h : Hp) : Option ((Int32 × Int32 × Int32 × Hp) ⊕ (Int32 × Hp)) :=
  some (.inl (v3, v5, (v6 + (-1 : Int32)), h))
noncomputable def s_Mod_slack_183 (v3 : Int32) (v5 : Int32) (h : Hp) : Option (Int32 × Hp) :=
  some (v3 - v5, h)
noncomputable def s_Mod_slack_141 (v3 : Int32) (v5 : Int32) (v6 : Int32) (h : Hp) : Option ((Int32 × Int32 × Int32 × Hp) ⊕ (Int32 × Hp)) :=
  if v6 < 0 then
    inr (s_Mod_slack_183 v3 v5 h)
  else
    if v6 < (v3 - ((720 : Int32))) then
      inr (s_Mod_slack_183 v3 v5 h)
    else
      (s_Mod_level ((0 : Int32)) v6 h).bind fun u1 => (s_Mod_level ((0 : Int32)) v5 h).bind fun u2 => if u1 ≤ u2 then
        s_Mod_slack_177 v3 v5 v6 h
      else
        s_Mod_slack_177 v3 v6 v6 h
noncomputable def s_Mod_slack_53 (v2 : Int32) (s0 : Int32) (h : Hp) : Option (Int32 × Hp) :=
  if s0 < 0 then
    s_Mod_slack_67 h
  else
    (s_Mod_lies v2 ((0 : Int32)) ((3 : Int32)) h).bind fun u1 => if u1 = 0 then
      s_Mod_slack_67 h
    else
      if v2 = 0 then
        some (s0, h)
      else
        if v2 = ((2 : Int32)) then
          (s_Mod_fallOf0 s0 h).bind fun u2 => some (u2, h)
        else
          if v2 = ((1 : Int32)) then
            lp (fun q => s_Mod_slack_96 q.1 q.2.1 q.2.2) (s0, s0, h)
          else
            lp (fun q => s_Mod_slack_141 q.1 q.2.1 q.2.2.1 q.2.2.2) (s0, s0, (s0 - ((1 : Int32))), h)
noncomputable def s_Mod_slack (v1 : Int32) (v2 : Int32) (h : Hp) : Option (Int32 × Hp) :=
  (s_Mod_looks h).bind fun u1 => if v1 = ((-1 : Int32)) then
    (s_Mod_lies v2 ((0 : Int32)) ((3 : Int32)) u1).bind fun u3 => if u3 = 0 then
      s_Mod_slack_35 ((-100000 : Int32)) u1
    else
      (s_Mod_slackAt 97 ((-1 : Int32)) u1).bind fun u4 => s_Mod_slack_35 (((-1 : Int32)) - u4) u1
  else
    if 0 ≤ v1 then
      (s_Mod_slackAt 97 v1 u1).bind fun u2 => s_Mod_slack_53 v2 u2 u1
    else
      s_Mod_slack_53 v2 ((-1 : Int32)) u1
def O_Mod_slack (G : jG) (X : jX) (out : (Int32 × Hp)) : Prop := jO G X (some .int) (some (.int out.1)) out.2
def P_Mod_slack_96 (G : jG) (X : jX) (q : Int32 × Int32 × Hp) : Prop := J G X 96 [(0, .ref (G.1 + 84)), (3, .int q.1), (4, .int q.2.1)] [] q.2.2
def O_Mod_slack_96 (G : jG) (X : jX) (t : ((Int32 × Int32 × Hp) ⊕ (Int32 × Hp))) : Prop := Sum.elim (P_Mod_slack_96 G X) (O_Mod_slack G X) t
def P_Mod_slack_141 (G : jG) (X : jX) (q : Int32 × Int32 × Int32 × Hp) : Prop := J G X 141 [(0, .ref (G.1 + 84)), (3, .int q.1), (5, .int q.2.1), (6, .int q.2.2.1)] [] q.2.2.2
def O_Mod_slack_141 (G : jG) (X : jX) (t : ((Int32 × Int32 × Int32 × Hp) ⊕ (Int32 × Hp))) : Prop := Sum.elim (P_Mod_slack_141 G X) (O_Mod_slack G X) t
theorem w_Mod_slack_35 {G : jG} {X : jX} (C : jC G X cX12_slack 7 RX12 179 4679) {s0 : Int32} {h : Hp} {out : (Int32 × Hp)} (O : (O_Mod_slack G X) out) (hm : s_Mod_slack_35 s0 h = some out) : J G X 35 [] [.int s0] h := by
  unfold s_Mod_slack_35 at hm
  obtain rfl := Option.some.inj hm
  exact j_iret C O dX12_slack_35
theorem w_Mod_slack_67 {G : jG} {X : jX} (C : jC G X cX12_slack 7 RX12 179 4679) {h : Hp} {out : (Int32 × Hp)} (O : (O_Mod_slack G X) out) (hm : s_Mod_slack_67 h = some out) : J G X 67 [] [] h := by
  unfold s_Mod_slack_67 at hm
  refine j_ldc_w C wd_1649 dX12_slack_67 ?_
  obtain rfl := Option.some.inj hm
  exact j_iret C O dX12_slack_70
theorem w_Mod_slack_128 {G : jG} {X : jX} (C : jC G X cX12_slack 7 RX12 179 4679) {v3 : Int32} {v4 : Int32} {h : Hp} {out : (Int32 × Hp)} (O : (O_Mod_slack G X) out) (hm : s_Mod_slack_128 v3 v4 h = some out) : J G X 128 [(3, .int v3), (4, .int v4)] [] h := by
  unfold s_Mod_slack_128 at hm
  refine j_iload C 1 dX12_slack_128 rfl ?_
  refine j_iload_n C 0 dX12_slack_130 rfl rfl ?_
  refine j_isub C dX12_slack_131 ?_
  obtain rfl := Option.some.inj hm
  exact j_iret C O dX12_slack_132
theorem w_Mod_slack_96 {G : jG} {X : jX} (C : jC G X cX12_slack 7 RX12 179 4679) {v3 : Int32} {v4 : Int32} {h : Hp} {out : ((Int32 × Int32 × Hp) ⊕ (Int32 × Hp))} (O : (O_Mod_slack_96 G X) out) (hm : s_Mod_slack_96 v3 v4 h = some out) : J G X 96 [(0, .ref (G.1 + 84)), (3, .int v3), (4, .int v4)] [] h := by
  unfold s_Mod_slack_96 at hm
  refine j_iload C 2 dX12_slack_96 rfl ?_
  refine j_sipush C 1440 dX12_slack_98 (by decide) ?_
  refine j_if_icmpge C 128 dX12_slack_101 (by decide) hm (fun hm => ?_) (fun hm => ?_)
  · obtain ⟨o_0, hm_0, rfl⟩ := inr_inv hm
    refine j_sub (L' := [(3, .int v3), (4, .int v4)]) [1, 2] rfl ?_
    exact w_Mod_slack_128 C O hm_0
  · refine j_aload_n C 0 dX12_slack_104 rfl rfl ?_
    refine j_gS C f_X12_58 n_84 q_84_26 dX12_slack_105 ?_
    refine j_iload C 2 dX12_slack_108 rfl ?_
    refine j_iald C n_97 hm dX12_slack_110 (fun hm => ?_)
    refine j_cS C l_X12_304 [.int (hI h 97 (ix v4))] [] (fun u1 => some (.int u1)) (fun _ => h) (fun u1 => [.int u1]) hm (fun l u hu => c_Mod_size hu) rfl (Nat.le_of_ble_eq_true rfl) rfl (Nat.le_of_ble_eq_true rfl) (Nat.le_of_ble_eq_true rfl) (fun _ => rfl) dX12_slack_111 (fun u1 hm => ?_)
    refine j_aload_n C 0 dX12_slack_114 rfl rfl ?_
    refine j_iconst C 3 dX12_slack_115 (by decide) ?_
    refine j_cV C l_X12_283 [.int ((3 : Int32))] [.int u1] (fun u2 => some (.int u2)) (fun _ => h) (fun u2 => [.int u2, .int u1]) n_84 hm (fun l u hu => c_Mod_term hu) rfl (Nat.le_of_ble_eq_true rfl) rfl (Nat.le_of_ble_eq_true rfl) (Nat.le_of_ble_eq_true rfl) (fun _ => rfl) dX12_slack_116 (fun u2 hm => ?_)
    refine j_if_icmpgt C 128 dX12_slack_119 (by decide) hm (fun hm => ?_) (fun hm => ?_)
    · obtain ⟨o_0, hm_0, rfl⟩ := inr_inv hm
      refine j_sub (L' := [(3, .int v3), (4, .int v4)]) [1, 2] rfl ?_
      exact w_Mod_slack_128 C O hm_0
    · refine j_iinc C 2 [(4, .int (v4 + (1 : Int32))), (0, .ref (G.1 + 84)), (3, .int v3)] dX12_slack_122 rfl (add_lit (by decide)) (by decide) rfl ?_
      refine j_goto C 96 dX12_slack_125 (by decide) ?_
      obtain rfl := Option.some.inj hm
      refine j_sub (L' := [(0, .ref (G.1 + 84)), (3, .int v3), (4, .int (v4 + (1 : Int32)))]) [1, 2, 0] rfl ?_
      exact O
theorem k_Mod_slack_96 {G : jG} {X : jX} (C : jC G X cX12_slack 7 RX12 179 4679) {v3 : Int32} {v4 : Int32} {h : Hp} {out : (Int32 × Hp)} (O : (O_Mod_slack G X) out) (hm : lp (fun q => s_Mod_slack_96 q.1 q.2.1 q.2.2) (v3, v4, h) = some out) : J G X 96 [(0, .ref (G.1 + 84)), (3, .int v3), (4, .int v4)] [] h :=
  lp_ok (P := P_Mod_slack_96 G X) (O := (O_Mod_slack G X)) (fun q r hm O => w_Mod_slack_96 C O hm) hm O
theorem w_Mod_slack_177 {G : jG} {X : jX} (C : jC G X cX12_slack 7 RX12 179 4679) {v3 : Int32} {v5 : Int32} {v6 : Int32} {h : Hp} {out : ((Int32 × Int32 × Int32 × Hp) ⊕ (Int32 × Hp))} (O : (O_Mod_slack_141 G X) out) (hm : s_Mod_slack_177 v3 v5 v6 h = some out) : J G X 177 [(0, .ref (G.1 + 84)), (3, .int v3), (5, .int v5), (6, .int v6)] [] h := by
  unfold s_Mod_slack_177 at hm
  refine j_iinc C 3 [(6, .int (v6 + (-1 : Int32))), (0, .ref (G.1 + 84)), (3, .int v3), (5, .int v5)] dX12_slack_177 rfl (add_lit (by decide)) (by decide) rfl ?_
  refine j_goto C 141 dX12_slack_180 (by decide) ?_
  obtain rfl := Option.some.inj hm
  refine j_sub (L' := [(0, .ref (G.1 + 84)), (3, .int v3), (5, .int v5), (6, .int (v6 + (-1 : Int32)))]) [1, 2, 3, 0] rfl ?_
  exact O
theorem w_Mod_slack_183 {G : jG} {X : jX} (C : jC G X cX12_slack 7 RX12 179 4679) {v3 : Int32} {v5 : Int32} {h : Hp} {out : (Int32 × Hp)} (O : (O_Mod_slack G X) out) (hm : s_Mod_slack_183 v3 v5 h = some out) : J G X 183 [(3, .int v3), (5, .int v5)] [] h := by
  unfold s_Mod_slack_183 at hm
  refine j_iload_n C 0 dX12_slack_183 rfl rfl ?_
  refine j_iload C 1 dX12_slack_184 rfl ?_
  refine j_isub C dX12_slack_186 ?_
  obtain rfl := Option.some.inj hm
  exact j_iret C O dX12_slack_187
theorem w_Mod_slack_141 {G : jG} {X : jX} (C : jC G X cX12_slack 7 RX12 179 4679) {v3 : Int32} {v5 : Int32} {v6 : Int32} {h : Hp} {out : ((Int32 × Int32 × Int32 × Hp) ⊕ (Int32 × Hp))} (O : (O_Mod_slack_141 G X) out) (hm : s_Mod_slack_141 v3 v5 v6 h = some out) : J G X 141 [(0, .ref (G.1 + 84)), (3, .int v3), (5, .int v5), (6, .int v6)] [] h := by
  unfold s_Mod_slack_141 at hm
  refine j_iload C 3 dX12_slack_141 rfl ?_
  refine j_iflt C 183 dX12_slack_143 (by decide) hm (fun hm => ?_) (fun hm => ?_)
  · obtain ⟨o_0, hm_0, rfl⟩ := inr_inv hm
    refine j_sub (L' := [(3, .int v3), (5, .int v5)]) [1, 2] rfl ?_
    exact w_Mod_slack_183 C O hm_0
  · refine j_iload C 3 dX12_slack_146 rfl ?_
    refine j_iload_n C 1 dX12_slack_148 rfl rfl ?_
    refine j_sipush C 720 dX12_slack_149 (by decide) ?_
    refine j_isub C dX12_slack_152 ?_
    refine j_if_icmplt C 183 dX12_slack_153 (by decide) hm (fun hm => ?_) (fun hm => ?_)
    · obtain ⟨o_0, hm_0, rfl⟩ := inr_inv hm
      refine j_sub (L' := [(3, .int v3), (5, .int v5)]) [1, 2] rfl ?_
      exact w_Mod_slack_183 C O hm_0
    · refine j_aload_n C 0 dX12_slack_156 rfl rfl ?_
      refine j_iconst C 0 dX12_slack_157 (by decide) ?_
      refine j_iload C 3 dX12_slack_158 rfl ?_
      refine j_cV C l_X12_331 [.int ((0 : Int32)), .int v6] [] (fun u1 => some (.int u1)) (fun _ => h) (fun u1 => [.int u1]) n_84 hm (fun l u hu => c_Mod_level hu) rfl (Nat.le_of_ble_eq_true rfl) rfl (Nat.le_of_ble_eq_true rfl) (Nat.le_of_ble_eq_true rfl) (fun _ => rfl) dX12_slack_160 (fun u1 hm => ?_)
      refine j_aload_n C 0 dX12_slack_163 rfl rfl ?_
      refine j_iconst C 0 dX12_slack_164 (by decide) ?_
      refine j_iload C 2 dX12_slack_165 rfl ?_
      refine j_cV C l_X12_331 [.int ((0 : Int32)), .int v5] [.int u1] (fun u2 => some (.int u2)) (fun _ => h) (fun u2 => [.int u2, .int u1]) n_84 hm (fun l u hu => c_Mod_level hu) rfl (Nat.le_of_ble_eq_true rfl) rfl (Nat.le_of_ble_eq_true rfl) (Nat.le_of_ble_eq_true rfl) (fun _ => rfl) dX12_slack_167 (fun u2 hm => ?_)
      refine j_if_icmple C 177 dX12_slack_170 (by decide) hm (fun hm => ?_) (fun hm => ?_)
      · refine j_sub (L' := [(0, .ref (G.1 + 84)), (3, .int v3), (5, .int v5), (6, .int v6)]) [0, 1, 2, 3] rfl ?_
        exact w_Mod_slack_177 C O hm
      · refine j_iload C 3 dX12_slack_173 rfl ?_
        refine j_istore C [(5, .int v6), (0, .ref (G.1 + 84)), (3, .int v3), (6, .int v6)] dX12_slack_175 (by decide) rfl ?_
        refine j_sub (L' := [(0, .ref (G.1 + 84)), (3, .int v3), (5, .int v6), (6, .int v6)]) [1, 2, 0, 3] rfl ?_
        exact w_Mod_slack_177 C O hm
theorem k_Mod_slack_141 {G : jG} {X : jX} (C : jC G X cX12_slack 7 RX12 179 4679) {v3 : Int32} {v5 : Int32} {v6 : Int32} {h : Hp} {out : (Int32 × Hp)} (O : (O_Mod_slack G X) out) (hm : lp (fun q => s_Mod_slack_141 q.1 q.2.1 q.2.2.1 q.2.2.2) (v3, v5, v6, h) = some out) : J G X 141 [(0, .ref (G.1 + 84)), (3, .int v3), (5, .int v5), (6, .int v6)] [] h :=
  lp_ok (P := P_Mod_slack_141 G X) (O := (O_Mod_slack G X)) (fun q r hm O => w_Mod_slack_141 C O hm) hm O
theorem w_Mod_slack_53 {G : jG} {X : jX} (C : jC G X cX12_slack 7 RX12 179 4679) {v2 : Int32} {s0 : Int32} {h : Hp} {out : (Int32 × Hp)} (O : (O_Mod_slack G X) out) (hm : s_Mod_slack_53 v2 s0 h = some out) : J G X 53 [(0, .ref (G.1 + 84)), (2, .int v2)] [.int s0] h := by
  unfold s_Mod_slack_53 at hm
  refine j_istore_n C [(3, .int s0), (0, .ref (G.1 + 84)), (2, .int v2)] dX12_slack_53 rfl (by decide) rfl ?_
  refine j_iload_n C 0 dX12_slack_54 rfl rfl ?_
  refine j_iflt C 67 dX12_slack_55 (by decide) hm (fun hm => ?_) (fun hm => ?_)
  · refine j_sub (L' := []) [] rfl ?_
    exact w_Mod_slack_67 C O hm
  · refine j_iload_n C 2 dX12_slack_58 rfl rfl ?_
    refine j_iconst C 0 dX12_slack_59 (by decide) ?_
    refine j_iconst C 3 dX12_slack_60 (by decide) ?_
    refine j_cS C l_X12_113 [.int v2, .int ((0 : Int32)), .int ((3 : Int32))] [] (fun u1 => some (.int u1)) (fun _ => h) (fun u1 => [.int u1]) hm (fun l u hu => c_Mod_lies hu) rfl (Nat.le_of_ble_eq_true rfl) rfl (Nat.le_of_ble_eq_true rfl) (Nat.le_of_ble_eq_true rfl) (fun _ => rfl) dX12_slack_61 (fun u1 hm => ?_)
    refine j_ifne C 71 dX12_slack_64 (by decide) hm (fun hm => ?_) (fun hm => ?_)
    · refine j_sub (L' := []) [] rfl ?_
      exact w_Mod_slack_67 C O hm
    · refine j_iload_n C 2 dX12_slack_71 rfl rfl ?_
      refine j_ifne C 77 dX12_slack_72 (by decide) hm (fun hm => ?_) (fun hm => ?_)
      · refine j_iload_n C 0 dX12_slack_75 rfl rfl ?_
        obtain rfl := Option.some.inj hm
        exact j_iret C O dX12_slack_76
      · refine j_iload_n C 2 dX12_slack_77 rfl rfl ?_
        refine j_iconst C 2 dX12_slack_78 (by decide) ?_
        refine j_if_icmpne C 88 dX12_slack_79 (by decide) hm (fun hm => ?_) (fun hm => ?_)
        · refine j_aload_n C 1 dX12_slack_82 rfl rfl ?_
          refine j_iload_n C 0 dX12_slack_83 rfl rfl ?_
          refine j_cV C l_X12_328 [.int s0] [] (fun u2 => some (.int u2)) (fun _ => h) (fun u2 => [.int u2]) n_84 hm (fun l u hu => c_Mod_fallOf0 hu) rfl (Nat.le_of_ble_eq_true rfl) rfl (Nat.le_of_ble_eq_true rfl) (Nat.le_of_ble_eq_true rfl) (fun _ => rfl) dX12_slack_84 (fun u2 hm => ?_)
          obtain rfl := Option.some.inj hm
          exact j_iret C O dX12_slack_87
        · refine j_iload_n C 0 dX12_slack_88 rfl rfl ?_
          refine j_istore C [(4, .int s0), (3, .int s0), (0, .ref (G.1 + 84)), (2, .int v2)] dX12_slack_89 (by decide) rfl ?_
          refine j_iload_n C 3 dX12_slack_91 rfl rfl ?_
          refine j_iconst C 1 dX12_slack_92 (by decide) ?_
          refine j_if_icmpne C 133 dX12_slack_93 (by decide) hm (fun hm => ?_) (fun hm => ?_)
          · refine j_sub (L' := [(0, .ref (G.1 + 84)), (3, .int s0), (4, .int s0)]) [2, 1, 0] rfl ?_
            exact k_Mod_slack_96 C O hm
          · refine j_iload_n C 1 dX12_slack_133 rfl rfl ?_
            refine j_istore C [(5, .int s0), (4, .int s0), (3, .int s0), (0, .ref (G.1 + 84)), (2, .int v2)] dX12_slack_134 (by decide) rfl ?_
            refine j_iload_n C 2 dX12_slack_136 rfl rfl ?_
            refine j_iconst C 1 dX12_slack_137 (by decide) ?_
            refine j_isub C dX12_slack_138 ?_
            refine j_istore C [(6, .int (s0 - ((1 : Int32)))), (5, .int s0), (4, .int s0), (3, .int s0), (0, .ref (G.1 + 84)), (2, .int v2)] dX12_slack_139 (by decide) rfl ?_
            refine j_sub (L' := [(0, .ref (G.1 + 84)), (3, .int s0), (5, .int s0), (6, .int (s0 - ((1 : Int32))))]) [4, 3, 1, 0] rfl ?_
            exact k_Mod_slack_141 C O hm
theorem w_Mod_slack {G : jG} {X : jX} (C : jC G X cX12_slack 7 RX12 179 4679) {v1 : Int32} {v2 : Int32} {h : Hp} {out : (Int32 × Hp)} (O : (O_Mod_slack G X) out) (hm : s_Mod_slack v1 v2 h = some out) : J G X 0 [(0, .ref (G.1 + 84)), (1, .int v1), (2, .int v2)] [] h := by
  unfold s_Mod_slack at hm
  refine j_aload_n C 0 dX12_slack_0 rfl rfl ?_
  refine j_cV C l_X12_321 [] [] (fun _ => none) (fun u1 => u1) (fun u1 => []) n_84 hm (fun l u hu => c_Mod_looks hu) rfl (Nat.le_of_ble_eq_true rfl) rfl (Nat.le_of_ble_eq_true rfl) (Nat.le_of_ble_eq_true rfl) (fun _ => rfl) dX12_slack_1 (fun u1 hm => ?_)
  refine j_iload_n C 1 dX12_slack_4 rfl rfl ?_
  refine j_iconst C (-1 : Int32) dX12_slack_5 (by decide) ?_
  refine j_if_icmpne C 36 dX12_slack_6 (by decide) hm (fun hm => ?_) (fun hm => ?_)
  · refine j_iload_n C 2 dX12_slack_9 rfl rfl ?_
    refine j_iconst C 0 dX12_slack_10 (by decide) ?_
    refine j_iconst C 3 dX12_slack_11 (by decide) ?_
    refine j_cS C l_X12_113 [.int v2, .int ((0 : Int32)), .int ((3 : Int32))] [] (fun u3 => some (.int u3)) (fun _ => u1) (fun u3 => [.int u3]) hm (fun l u hu => c_Mod_lies hu) rfl (Nat.le_of_ble_eq_true rfl) rfl (Nat.le_of_ble_eq_true rfl) (Nat.le_of_ble_eq_true rfl) (fun _ => rfl) dX12_slack_12 (fun u3 hm => ?_)
    refine j_ifeq C 32 dX12_slack_15 (by decide) hm (fun hm => ?_) (fun hm => ?_)
    · refine j_ldc_w C wd_1649 dX12_slack_32 ?_
      refine j_sub (L' := []) [] rfl ?_
      exact w_Mod_slack_35 C O hm
    · refine j_iconst C (-1 : Int32) dX12_slack_18 (by decide) ?_
      refine j_aload_n C 0 dX12_slack_19 rfl rfl ?_
      refine j_aload_n C 0 dX12_slack_20 rfl rfl ?_
      refine j_gS C f_X12_58 n_84 q_84_26 dX12_slack_21 ?_
      refine j_iconst C (-1 : Int32) dX12_slack_24 (by decide) ?_
      refine j_cV C l_X12_324 [.ref (G.1 + 97), .int ((-1 : Int32))] [.int ((-1 : Int32))] (fun u4 => some (.int u4)) (fun _ => u1) (fun u4 => [.int u4, .int ((-1 : Int32))]) n_84 hm (fun l u hu => c_Mod_slackAt hu) rfl (Nat.le_of_ble_eq_true rfl) rfl (Nat.le_of_ble_eq_true rfl) (Nat.le_of_ble_eq_true rfl) (fun _ => rfl) dX12_slack_25 (fun u4 hm => ?_)
      refine j_isub C dX12_slack_28 ?_
      refine j_goto C 35 dX12_slack_29 (by decide) ?_
      refine j_sub (L' := []) [] rfl ?_
      exact w_Mod_slack_35 C O hm
  · refine j_iload_n C 1 dX12_slack_36 rfl rfl ?_
    refine j_ifge C 44 dX12_slack_37 (by decide) hm (fun hm => ?_) (fun hm => ?_)
    · refine j_aload_n C 0 dX12_slack_44 rfl rfl ?_
      refine j_aload_n C 0 dX12_slack_45 rfl rfl ?_
      refine j_gS C f_X12_58 n_84 q_84_26 dX12_slack_46 ?_
      refine j_iload_n C 1 dX12_slack_49 rfl rfl ?_
      refine j_cV C l_X12_324 [.ref (G.1 + 97), .int v1] [] (fun u2 => some (.int u2)) (fun _ => u1) (fun u2 => [.int u2]) n_84 hm (fun l u hu => c_Mod_slackAt hu) rfl (Nat.le_of_ble_eq_true rfl) rfl (Nat.le_of_ble_eq_true rfl) (Nat.le_of_ble_eq_true rfl) (fun _ => rfl) dX12_slack_50 (fun u2 hm => ?_)
      refine j_sub (L' := [(0, .ref (G.1 + 84)), (2, .int v2)]) [0, 2] rfl ?_
      exact w_Mod_slack_53 C O hm
    · refine j_iconst C (-1 : Int32) dX12_slack_40 (by decide) ?_
      refine j_goto C 53 dX12_slack_41 (by decide) ?_
      refine j_sub (L' := [(0, .ref (G.1 + 84)), (2, .int v2)]) [0, 2] rfl ?_
      exact w_Mod_slack_53 C O hm
theorem c_Mod_slack {G : jG} {l : Launch} {v1 : Int32} {v2 : Int32} {h : Hp} {out : (Int32 × Hp)} (hm : s_Mod_slack v1 v2 h = some out) : mt G l yX12_slack cX12_slack 7 (some .int) 179 4679 [.ref (G.1 + 84), .int v1, .int v2] h (some (.int out.1)) out.2 :=
  mt_of (by decide) (Nat.le_of_ble_eq_true rfl) _ rfl (fun X I C O => w_Mod_slack C O hm)
noncomputable def s_Mod_soonestOf_66 (v1 : Int32) (v2 : Int32) (v3 : Int32) (v4 : Int32) (v5 : Int32) (v6 : Int32) (s0 : Int32) (s1 : Int32) (h : Hp) : Option ((Int32 × Int32 × Int32 × Int32 × Int32 × Int32 × Hp) ⊕ ((Int32 × Int32 × Int32 × Int32 × Int32 × Hp) ⊕ (Int32 × Hp))) :=
  ib s1 7200 <| some (.inl (v1, v2, v3, v4, v5, (v6 + (1 : Int32)), (sI h 100 (ix s1) (z_nz s0))))
noncomputable def s_Mod_soonestOf_65 (v1 : Int32) (v2 : Int32) (v3 : Int32) (v4 : Int32) (v5 : Int32) (v6 : Int32) (s0 : Int32) (h : Hp) : Option ((Int32 × Int32 × Int32 × Int32 × Int32 × Int32 × Hp) ⊕ ((Int32 × Int32 × Int32 × Int32 × Int32 × Hp) ⊕ (Int32 × Hp))) :=
  s_Mod_soonestOf_66 v1 v2 v3 v4 v5 v6 ((0 : Int32)) s0 h
noncomputable def s_Mod_soonestOf_161 (v1 : Int32) (v2 : Int32) (v3 : Int32) (v4 : Int32) (v5 : Int32) (v6 : Int32) (h : Hp) : Option ((Int32 × Int32 × Int32 × Int32 × Int32 × Int32 × Hp) ⊕ ((Int32 × Int32 × Int32 × Int32 × Int32 × Hp) ⊕ (Int32 × Hp))) :=
  some (.inl (v1, v2, v3, v4, v5, (v6 + (1 : Int32)), h))
noncomputable def s_Mod_soonestOf_155 (v1 : Int32) (v2 : Int32) (v3 : Int32) (v4 : Int32) (v5 : Int32) (v6 : Int32) (v7 : Int32) (h : Hp) : Option ((Int32 × Int32 × Int32 × Int32 × Int32 × Int32 × Int32 × Hp) ⊕ ((Int32 × Int32 × Int32 × Int32 × Int32 × Int32 × Hp) ⊕ ((Int32 × Int32 × Int32 × Int32 × Int32 × Hp) ⊕ (Int32 × Hp)))) :=
  some (.inl (v1, v2, v3, v4, v5, v6, (v7 + (1 : Int32)), h))
noncomputable def s_Mod_soonestOf_113 (v1 : Int32) (v2 : Int32) (v3 : Int32) (v4 : Int32) (v5 : Int32) (v6 : Int32) (v7 : Int32) (h : Hp) : Option ((Int32 × Int32 × Int32 × Int32 × Int32 × Int32 × Int32 × Hp) ⊕ ((Int32 × Int32 × Int32 × Int32 × Int32 × Int32 × Hp) ⊕ ((Int32 × Int32 × Int32 × Int32 × Int32 × Hp) ⊕ (Int32 × Hp)))) :=
  if ((5 : Int32)) ≤ v7 then
    inr (s_Mod_soonestOf_161 v1 v2 v3 v4 v5 v6 h)
  else
    (s_Mod_behind v1 v6 (v5 - ((1 : Int32))) v7 ((0 : Int32)) h).bind fun u1 => if u1 = ((-1 : Int32)) then
      s_Mod_soonestOf_155 v1 v2 v3 v4 v5 v6 v7 h
    else
      ib ((((50 : Int32)) * v5) + u1) 7200 <| s_Mod_soonestOf_155 v1 v2 v3 v4 v5 v6 v7 (sI h 100 (ix ((((50 : Int32)) * v5) + u1)) (z_nz ((1 : Int32))))
noncomputable def s_Mod_soonestOf_167 (v1 : Int32) (v2 : Int32) (v3 : Int32) (v4 : Int32) (v5 : Int32) (h : Hp) : Option ((Int32 × Int32 × Int32 × Int32 × Int32 × Hp) ⊕ (Int32 × Hp)) :=
  ib ((((50 : Int32)) * v5) + v4) 7200 <| if (hI h 100 (ix ((((50 : Int32)) * v5) + v4))) = 0 then
    some (.inl (v1, v2, v3, v4, (v5 + (1 : Int32)), h))
  else
    some (.inr (v5, h))
noncomputable def s_Mod_soonestOf_76 (v1 : Int32) (v2 : Int32) (v3 : Int32) (v4 : Int32) (v5 : Int32) (v6 : Int32) (h : Hp) : Option ((Int32 × Int32 × Int32 × Int32 × Int32 × Int32 × Hp) ⊕ ((Int32 × Int32 × Int32 × Int32 × Int32 × Hp) ⊕ (Int32 × Hp))) :=
  if ((50 : Int32)) ≤ v6 then
    inr (s_Mod_soonestOf_167 v1 v2 v3 v4 v5 h)
  else
    if v5 ≤ v2 then
      inr (s_Mod_soonestOf_167 v1 v2 v3 v4 v5 h)
    else
      ib ((((50 : Int32)) * (v5 - ((1 : Int32)))) + v6) 7200 <| if (hI h 100 (ix ((((50 : Int32)) * (v5 - ((1 : Int32)))) + v6))) = 0 then
        s_Mod_soonestOf_161 v1 v2 v3 v4 v5 v6 h
      else
        lp (fun q => s_Mod_soonestOf_113 q.1 q.2.1 q.2.2.1 q.2.2.2.1 q.2.2.2.2.1 q.2.2.2.2.2.1 q.2.2.2.2.2.2.1 q.2.2.2.2.2.2.2) (v1, v2, v3, v4, v5, v6, ((0 : Int32)), h)
noncomputable def s_Mod_soonestOf_14 (v1 : Int32) (v2 : Int32) (v3 : Int32) (v4 : Int32) (v5 : Int32) (v6 : Int32) (h : Hp) : Option ((Int32 × Int32 × Int32 × Int32 × Int32 × Int32 × Hp) ⊕ ((Int32 × Int32 × Int32 × Int32 × Int32 × Hp) ⊕ (Int32 × Hp))) :=
  if ((50 : Int32)) ≤ v6 then
    inr (lp (fun q => s_Mod_soonestOf_76 q.1 q.2.1 q.2.2.1 q.2.2.2.1 q.2.2.2.2.1 q.2.2.2.2.2.1 q.2.2.2.2.2.2) (v1, v2, v3, v4, v5, ((0 : Int32)), h))
  else
    if v5 = v2 then
      if v6 = v3 then
        (s_Mod_minuteOf v5 ((0 : Int32)) h).bind fun u1 => (s_Mod_canBe v1 v6 u1 h).bind fun u2 => if u2 = 0 then
          s_Mod_soonestOf_65 v1 v2 v3 v4 v5 v6 ((((50 : Int32)) * v5) + v6) h
        else
          s_Mod_soonestOf_66 v1 v2 v3 v4 v5 v6 ((1 : Int32)) ((((50 : Int32)) * v5) + v6) h
      else
        s_Mod_soonestOf_65 v1 v2 v3 v4 v5 v6 ((((50 : Int32)) * v5) + v6) h
    else
      s_Mod_soonestOf_65 v1 v2 v3 v4 v5 v6 ((((50 : Int32)) * v5) + v6) h
noncomputable def s_Mod_soonestOf_3 (v1 : Int32) (v2 : Int32) (v3 : Int32) (v4 : Int32) (v5 : Int32) (h : Hp) : Option ((Int32 × Int32 × Int32 × Int32 × Int32 × Hp) ⊕ (Int32 × Hp)) :=
  if ((144 : Int32)) ≤ v5 then
    some (.inr ((-1 : Int32), h))
  else
    lp (fun q => s_Mod_soonestOf_14 q.1 q.2.1 q.2.2.1 q.2.2.2.1 q.2.2.2.2.1 q.2.2.2.2.2.1 q.2.2.2.2.2.2) (v1, v2, v3, v4, v5, ((0 : Int32)), h)
noncomputable def s_Mod_soonestOf (v1 : Int32) (v2 : Int32) (v3 : Int32) (v4 : Int32) (h : Hp) : Option (Int32 × Hp) :=
  lp (fun q => s_Mod_soonestOf_3 q.1 q.2.1 q.2.2.1 q.2.2.2.1 q.2.2.2.2.1 q.2.2.2.2.2) (v1, v2, v3, v4, v2, h)
def O_Mod_soonestOf (G : jG) (X : jX) (out : (Int32 × Hp)) : Prop := jO G X (some .int) (some (.int out.1)) out.2
def P_Mod_soonestOf_3 (G : jG) (X : jX) (q : Int32 × Int32 × Int32 × Int32 × Int32 × Hp) : Prop := J G X 3 [(0, .ref (G.1 + 84)), (1, .int q.1), (2, .int q.2.1), (3, .int q.2.2.1), (4, .int q.2.2.2.1), (5, .int q.2.2.2.2.1)] [] q.2.2.2.2.2
def O_Mod_soonestOf_3 (G : jG) (X : jX) (t : ((Int32 × Int32 × Int32 × Int32 × Int32 × Hp) ⊕ (Int32 × Hp))) : Prop := Sum.elim (P_Mod_soonestOf_3 G X) (O_Mod_soonestOf G X) t
def P_Mod_soonestOf_14 (G : jG) (X : jX) (q : Int32 × Int32 × Int32 × Int32 × Int32 × Int32 × Hp) : Prop := J G X 14 [(0, .ref (G.1 + 84)), (1, .int q.1), (2, .int q.2.1), (3, .int q.2.2.1), (4, .int q.2.2.2.1), (5, .int q.2.2.2.2.1), (6, .int q.2.2.2.2.2.1)] [] q.2.2.2.2.2.2
def O_Mod_soonestOf_14 (G : jG) (X : jX) (t : ((Int32 × Int32 × Int32 × Int32 × Int32 × Int32 × Hp) ⊕ ((Int32 × Int32 × Int32 × Int32 × Int32 × Hp) ⊕ (Int32 × Hp)))) : Prop := Sum.elim (P_Mod_soonestOf_14 G X) (O_Mod_soonestOf_3 G X) t
def P_Mod_soonestOf_76 (G : jG) (X : jX) (q : Int32 × Int32 × Int32 × Int32 × Int32 × Int32 × Hp) : Prop := J G X 76 [(0, .ref (G.1 + 84)), (1, .int q.1), (2, .int q.2.1), (3, .int q.2.2.1), (4, .int q.2.2.2.1), (5, .int q.2.2.2.2.1), (6, .int q.2.2.2.2.2.1)] [] q.2.2.2.2.2.2
def O_Mod_soonestOf_76 (G : jG) (X : jX) (t : ((Int32 × Int32 × Int32 × Int32 × Int32 × Int32 × Hp) ⊕ ((Int32 × Int32 × Int32 × Int32 × Int32 × Hp) ⊕ (Int32 × Hp)))) : Prop := Sum.elim (P_Mod_soonestOf_76 G X) (O_Mod_soonestOf_3 G X) t
def P_Mod_soonestOf_113 (G : jG) (X : jX) (q : Int32 × Int32 × Int32 × Int32 × Int32 × Int32 × Int32 × Hp) : Prop := J G X 113 [(0, .ref (G.1 + 84)), (1, .int q.1), (2, .int q.2.1), (3, .int q.2.2.1), (4, .int q.2.2.2.1), (5, .int q.2.2.2.2.1), (6, .int q.2.2.2.2.2.1), (7, .int q.2.2.2.2.2.2.1)] [] q.2.2.2.2.2.2.2
def O_Mod_soonestOf_113 (G : jG) (X : jX) (t : ((Int32 × Int32 × Int32 × Int32 × Int32 × Int32 × Int32 × Hp) ⊕ ((Int32 × Int32 × Int32 × Int32 × Int32 × Int32 × Hp) ⊕ ((Int32 × Int32 × Int32 × Int32 × Int32 × Hp) ⊕ (Int32 × Hp))))) : Prop := Sum.elim (P_Mod_soonestOf_113 G X) (O_Mod_soonestOf_76 G X) t
theorem w_Mod_soonestOf_66 {G : jG} {X : jX} (C : jC G X cX12_soonestOf 9 RX12 4 143) {v1 : Int32} {v2 : Int32} {v3 : Int32} {v4 : Int32} {v5 : Int32} {v6 : Int32} {s0 : Int32} {s1 : Int32} {h : Hp} {out : ((Int32 × Int32 × Int32 × Int32 × Int32 × Int32 × Hp) ⊕ ((Int32 × Int32 × Int32 × Int32 × Int32 × Hp) ⊕ (Int32 × Hp)))} (O : (O_Mod_soonestOf_14 G X) out) (hm : s_Mod_soonestOf_66 v1 v2 v3 v4 v5 v6 s0 s1 h = some out) : J G X 66 [(0, .ref (G.1 + 84)), (1, .int v1), (2, .int v2), (3, .int v3), (4, .int v4), (5, .int v5), (6, .int v6)] [.int s0, .int s1, .ref (G.1 + 100)] h := by
  unfold s_Mod_soonestOf_66 at hm
  refine j_zast C n_100 hm dX12_soonestOf_66 (fun hm => ?_)
  refine j_iinc C 6 [(6, .int (v6 + (1 : Int32))), (0, .ref (G.1 + 84)), (1, .int v1), (2, .int v2), (3, .int v3), (4, .int v4), (5, .int v5)] dX12_soonestOf_67 rfl (add_lit (by decide)) (by decide) rfl ?_
  refine j_goto C 14 dX12_soonestOf_70 (by decide) ?_
  obtain rfl := Option.some.inj hm
  refine j_sub (L' := [(0, .ref (G.1 + 84)), (1, .int v1), (2, .int v2), (3, .int v3), (4, .int v4), (5, .int v5), (6, .int (v6 + (1 : Int32)))]) [1, 2, 3, 4, 5, 6, 0] rfl ?_
  exact O
theorem w_Mod_soonestOf_65 {G : jG} {X : jX} (C : jC G X cX12_soonestOf 9 RX12 4 143) {v1 : Int32} {v2 : Int32} {v3 : Int32} {v4 : Int32} {v5 : Int32} {v6 : Int32} {s0 : Int32} {h : Hp} {out : ((Int32 × Int32 × Int32 × Int32 × Int32 × Int32 × Hp) ⊕ ((Int32 × Int32 × Int32 × Int32 × Int32 × Hp) ⊕ (Int32 × Hp)))} (O : (O_Mod_soonestOf_14 G X) out) (hm : s_Mod_soonestOf_65 v1 v2 v3 v4 v5 v6 s0 h = some out) : J G X 65 [(0, .ref (G.1 + 84)), (1, .int v1), (2, .int v2), (3, .int v3), (4, .int v4), (5, .int v5), (6, .int v6)] [.int s0, .ref (G.1 + 100)] h := by
  unfold s_Mod_soonestOf_65 at hm
  refine j_iconst C 0 dX12_soonestOf_65 (by decide) ?_
  refine j_sub (L' := [(0, .ref (G.1 + 84)), (1, .int v1), (2, .int v2), (3, .int v3), (4, .int v4), (5, .int v5), (6, .int v6)]) [0, 1, 2, 3, 4, 5, 6] rfl ?_
  exact w_Mod_soonestOf_66 C O hm
theorem w_Mod_soonestOf_161 {G : jG} {X : jX} (C : jC G X cX12_soonestOf 9 RX12 4 143) {v1 : Int32} {v2 : Int32} {v3 : Int32} {v4 : Int32} {v5 : Int32} {v6 : Int32} {h : Hp} {out : ((Int32 × Int32 × Int32 × Int32 × Int32 × Int32 × Hp) ⊕ ((Int32 × Int32 × Int32 × Int32 × Int32 × Hp) ⊕ (Int32 × Hp)))} (O : (O_Mod_soonestOf_76 G X) out) (hm : s_Mod_soonestOf_161 v1 v2 v3 v4 v5 v6 h = some out) : J G X 161 [(0, .ref (G.1 + 84)), (1, .int v1), (2, .int v2), (3, .int v3), (4, .int v4), (5, .int v5), (6, .int v6)] [] h := by
  unfold s_Mod_soonestOf_161 at hm
  refine j_iinc C 6 [(6, .int (v6 + (1 : Int32))), (0, .ref (G.1 + 84)), (1, .int v1), (2, .int v2), (3, .int v3), (4, .int v4), (5, .int v5)] dX12_soonestOf_161 rfl (add_lit (by decide)) (by decide) rfl ?_
  refine j_goto C 76 dX12_soonestOf_164 (by decide) ?_
  obtain rfl := Option.some.inj hm
  refine j_sub (L' := [(0, .ref (G.1 + 84)), (1, .int v1), (2, .int v2), (3, .int v3), (4, .int v4), (5, .int v5), (6, .int (v6 + (1 : Int32)))]) [1, 2, 3, 4, 5, 6, 0] rfl ?_
  exact O
theorem w_Mod_soonestOf_155 {G : jG} {X : jX} (C : jC G X cX12_soonestOf 9 RX12 4 143) {v1 : Int32} {v2 : Int32} {v3 : Int32} {v4 : Int32} {v5 : Int32} {v6 : Int32} {v7 : Int32} {h : Hp} {out : ((Int32 × Int32 × Int32 × Int32 × Int32 × Int32 × Int32 × Hp) ⊕ ((Int32 × Int32 × Int32 × Int32 × Int32 × Int32 × Hp) ⊕ ((Int32 × Int32 × Int32 × Int32 × Int32 × Hp) ⊕ (Int32 × Hp))))} (O : (O_Mod_soonestOf_113 G X) out) (hm : s_Mod_soonestOf_155 v1 v2 v3 v4 v5 v6 v7 h = some out) : J G X 155 [(0, .ref (G.1 + 84)), (1, .int v1), (2, .int v2), (3, .int v3), (4, .int v4), (5, .int v5), (6, .int v6), (7, .int v7)] [] h := by
  unfold s_Mod_soonestOf_155 at hm
  refine j_iinc C 7 [(7, .int (v7 + (1 : Int32))), (0, .ref (G.1 + 84)), (1, .int v1), (2, .int v2), (3, .int v3), (4, .int v4), (5, .int v5), (6, .int v6)] dX12_soonestOf_155 rfl (add_lit (by decide)) (by decide) rfl ?_
  refine j_goto C 113 dX12_soonestOf_158 (by decide) ?_
  obtain rfl := Option.some.inj hm
  refine j_sub (L' := [(0, .ref (G.1 + 84)), (1, .int v1), (2, .int v2), (3, .int v3), (4, .int v4), (5, .int v5), (6, .int v6), (7, .int (v7 + (1 : Int32)))]) [1, 2, 3, 4, 5, 6, 7, 0] rfl ?_
  exact O
theorem w_Mod_soonestOf_113 {G : jG} {X : jX} (C : jC G X cX12_soonestOf 9 RX12 4 143) {v1 : Int32} {v2 : Int32} {v3 : Int32} {v4 : Int32} {v5 : Int32} {v6 : Int32} {v7 : Int32} {h : Hp} {out : ((Int32 × Int32 × Int32 × Int32 × Int32 × Int32 × Int32 × Hp) ⊕ ((Int32 × Int32 × Int32 × Int32 × Int32 × Int32 × Hp) ⊕ ((Int32 × Int32 × Int32 × Int32 × Int32 × Hp) ⊕ (Int32 × Hp))))} (O : (O_Mod_soonestOf_113 G X) out) (hm : s_Mod_soonestOf_113 v1 v2 v3 v4 v5 v6 v7 h = some out) : J G X 113 [(0, .ref (G.1 + 84)), (1, .int v1), (2, .int v2), (3, .int v3), (4, .int v4), (5, .int v5), (6, .int v6), (7, .int v7)] [] h := by
  unfold s_Mod_soonestOf_113 at hm
  refine j_iload C 7 dX12_soonestOf_113 rfl ?_
  refine j_iconst C 5 dX12_soonestOf_115 (by decide) ?_
  refine j_if_icmpge C 161 dX12_soonestOf_116 (by decide) hm (fun hm => ?_) (fun hm => ?_)
  · obtain ⟨o_0, hm_0, rfl⟩ := inr_inv hm
    refine j_sub (L' := [(0, .ref (G.1 + 84)), (1, .int v1), (2, .int v2), (3, .int v3), (4, .int v4), (5, .int v5), (6, .int v6)]) [0, 1, 2, 3, 4, 5, 6] rfl ?_
    exact w_Mod_soonestOf_161 C O hm_0
  · refine j_aload_n C 0 dX12_soonestOf_119 rfl rfl ?_
    refine j_iload_n C 1 dX12_soonestOf_120 rfl rfl ?_
    refine j_iload C 6 dX12_soonestOf_121 rfl ?_
    refine j_iload C 5 dX12_soonestOf_123 rfl ?_
    refine j_iconst C 1 dX12_soonestOf_125 (by decide) ?_
    refine j_isub C dX12_soonestOf_126 ?_
    refine j_iload C 7 dX12_soonestOf_127 rfl ?_
    refine j_iconst C 0 dX12_soonestOf_129 (by decide) ?_
    refine j_cV C l_X12_357 [.int v1, .int v6, .int (v5 - ((1 : Int32))), .int v7, .int ((0 : Int32))] [] (fun u1 => some (.int u1)) (fun _ => h) (fun u1 => [.int u1]) n_84 hm (fun l u hu => c_Mod_behind hu) rfl (Nat.le_of_ble_eq_true rfl) rfl (Nat.le_of_ble_eq_true rfl) (Nat.le_of_ble_eq_true rfl) (fun _ => rfl) dX12_soonestOf_130 (fun u1 hm => ?_)
    refine j_istore C [(8, .int u1), (0, .ref (G.1 + 84)), (1, .int v1), (2, .int v2), (3, .int v3), (4, .int v4), (5, .int v5), (6, .int v6), (7, .int v7)] dX12_soonestOf_133 (by decide) rfl ?_
    refine j_iload C 0 dX12_soonestOf_135 rfl ?_
    refine j_iconst C (-1 : Int32) dX12_soonestOf_137 (by decide) ?_
    refine j_if_icmpeq C 155 dX12_soonestOf_138 (by decide) hm (fun hm => ?_) (fun hm => ?_)
    · refine j_sub (L' := [(0, .ref (G.1 + 84)), (1, .int v1), (2, .int v2), (3, .int v3), (4, .int v4), (5, .int v5), (6, .int v6), (7, .int v7)]) [1, 2, 3, 4, 5, 6, 7, 8] rfl ?_
      exact w_Mod_soonestOf_155 C O hm
    · refine j_aload_n C 1 dX12_soonestOf_141 rfl rfl ?_
      refine j_gS C f_X12_70 n_84 q_84_30 dX12_soonestOf_142 ?_
      refine j_bipush C 50 dX12_soonestOf_145 (by decide) ?_
      refine j_iload C 6 dX12_soonestOf_147 rfl ?_
      refine j_imul C dX12_soonestOf_149 ?_
      refine j_iload C 0 dX12_soonestOf_150 rfl ?_
      refine j_iadd C dX12_soonestOf_152 ?_
      refine j_iconst C 1 dX12_soonestOf_153 (by decide) ?_
      refine j_zast C n_100 hm dX12_soonestOf_154 (fun hm => ?_)
      refine j_sub (L' := [(0, .ref (G.1 + 84)), (1, .int v1), (2, .int v2), (3, .int v3), (4, .int v4), (5, .int v5), (6, .int v6), (7, .int v7)]) [1, 2, 3, 4, 5, 6, 7, 8] rfl ?_
      exact w_Mod_soonestOf_155 C O hm
theorem k_Mod_soonestOf_113 {G : jG} {X : jX} (C : jC G X cX12_soonestOf 9 RX12 4 143) {v1 : Int32} {v2 : Int32} {v3 : Int32} {v4 : Int32} {v5 : Int32} {v6 : Int32} {v7 : Int32} {h : Hp} {out : ((Int32 × Int32 × Int32 × Int32 × Int32 × Int32 × Hp) ⊕ ((Int32 × Int32 × Int32 × Int32 × Int32 × Hp) ⊕ (Int32 × Hp)))} (O : (O_Mod_soonestOf_76 G X) out) (hm : lp (fun q => s_Mod_soonestOf_113 q.1 q.2.1 q.2.2.1 q.2.2.2.1 q.2.2.2.2.1 q.2.2.2.2.2.1 q.2.2.2.2.2.2.1 q.2.2.2.2.2.2.2) (v1, v2, v3, v4, v5, v6, v7, h) = some out) : J G X 113 [(0, .ref (G.1 + 84)), (1, .int v1), (2, .int v2), (3, .int v3), (4, .int v4), (5, .int v5), (6, .int v6), (7, .int v7)] [] h :=
  lp_ok (P := P_Mod_soonestOf_113 G X) (O := (O_Mod_soonestOf_76 G X)) (fun q r hm O => w_Mod_soonestOf_113 C O hm) hm O
theorem w_Mod_soonestOf_167 {G : jG} {X : jX} (C : jC G X cX12_soonestOf 9 RX12 4 143) {v1 : Int32} {v2 : Int32} {v3 : Int32} {v4 : Int32} {v5 : Int32} {h : Hp} {out : ((Int32 × Int32 × Int32 × Int32 × Int32 × Hp) ⊕ (Int32 × Hp))} (O : (O_Mod_soonestOf_3 G X) out) (hm : s_Mod_soonestOf_167 v1 v2 v3 v4 v5 h = some out) : J G X 167 [(0, .ref (G.1 + 84)), (1, .int v1), (2, .int v2), (3, .int v3), (4, .int v4), (5, .int v5)] [] h := by
  unfold s_Mod_soonestOf_167 at hm
  refine j_aload_n C 0 dX12_soonestOf_167 rfl rfl ?_
  refine j_gS C f_X12_70 n_84 q_84_30 dX12_soonestOf_168 ?_
  refine j_bipush C 50 dX12_soonestOf_171 (by decide) ?_
  refine j_iload C 5 dX12_soonestOf_173 rfl ?_
  refine j_imul C dX12_soonestOf_175 ?_
  refine j_iload C 4 dX12_soonestOf_176 rfl ?_
  refine j_iadd C dX12_soonestOf_178 ?_
  refine j_zald C n_100 hm dX12_soonestOf_179 (fun hm => ?_)
  refine j_ifeq C 186 dX12_soonestOf_180 (by decide) hm (fun hm => ?_) (fun hm => ?_)
  · refine j_iinc C 5 [(5, .int (v5 + (1 : Int32))), (0, .ref (G.1 + 84)), (1, .int v1), (2, .int v2), (3, .int v3), (4, .int v4)] dX12_soonestOf_186 rfl (add_lit (by decide)) (by decide) rfl ?_
    refine j_goto C 3 dX12_soonestOf_189 (by decide) ?_
    obtain rfl := Option.some.inj hm
    refine j_sub (L' := [(0, .ref (G.1 + 84)), (1, .int v1), (2, .int v2), (3, .int v3), (4, .int v4), (5, .int (v5 + (1 : Int32)))]) [1, 2, 3, 4, 5, 0] rfl ?_
    exact O
  · refine j_iload C 5 dX12_soonestOf_183 rfl ?_
    obtain rfl := Option.some.inj hm
    exact j_iret C O dX12_soonestOf_185
theorem w_Mod_soonestOf_76 {G : jG} {X : jX} (C : jC G X cX12_soonestOf 9 RX12 4 143) {v1 : Int32} {v2 : Int32} {v3 : Int32} {v4 : Int32} {v5 : Int32} {v6 : Int32} {h : Hp} {out : ((Int32 × Int32 × Int32 × Int32 × Int32 × Int32 × Hp) ⊕ ((Int32 × Int32 × Int32 × Int32 × Int32 × Hp) ⊕ (Int32 × Hp)))} (O : (O_Mod_soonestOf_76 G X) out) (hm : s_Mod_soonestOf_76 v1 v2 v3 v4 v5 v6 h = some out) : J G X 76 [(0, .ref (G.1 + 84)), (1, .int v1), (2, .int v2), (3, .int v3), (4, .int v4), (5, .int v5), (6, .int v6)] [] h := by
  unfold s_Mod_soonestOf_76 at hm
  refine j_iload C 6 dX12_soonestOf_76 rfl ?_
  refine j_bipush C 50 dX12_soonestOf_78 (by decide) ?_
  refine j_if_icmpge C 167 dX12_soonestOf_80 (by decide) hm (fun hm => ?_) (fun hm => ?_)
  · obtain ⟨o_0, hm_0, rfl⟩ := inr_inv hm
    refine j_sub (L' := [(0, .ref (G.1 + 84)), (1, .int v1), (2, .int v2), (3, .int v3), (4, .int v4), (5, .int v5)]) [0, 1, 2, 3, 4, 5] rfl ?_
    exact w_Mod_soonestOf_167 C O hm_0
  · refine j_iload C 5 dX12_soonestOf_83 rfl ?_
    refine j_iload_n C 2 dX12_soonestOf_85 rfl rfl ?_
    refine j_if_icmple C 167 dX12_soonestOf_86 (by decide) hm (fun hm => ?_) (fun hm => ?_)
    · obtain ⟨o_0, hm_0, rfl⟩ := inr_inv hm
      refine j_sub (L' := [(0, .ref (G.1 + 84)), (1, .int v1), (2, .int v2), (3, .int v3), (4, .int v4), (5, .int v5)]) [0, 1, 2, 3, 4, 5] rfl ?_
      exact w_Mod_soonestOf_167 C O hm_0
    · refine j_aload_n C 0 dX12_soonestOf_89 rfl rfl ?_
      refine j_gS C f_X12_70 n_84 q_84_30 dX12_soonestOf_90 ?_
      refine j_bipush C 50 dX12_soonestOf_93 (by decide) ?_
      refine j_iload C 5 dX12_soonestOf_95 rfl ?_
      refine j_iconst C 1 dX12_soonestOf_97 (by decide) ?_
      refine j_isub C dX12_soonestOf_98 ?_
      refine j_imul C dX12_soonestOf_99 ?_
      refine j_iload C 6 dX12_soonestOf_100 rfl ?_
      refine j_iadd C dX12_soonestOf_102 ?_
      refine j_zald C n_100 hm dX12_soonestOf_103 (fun hm => ?_)
      refine j_ifne C 110 dX12_soonestOf_104 (by decide) hm (fun hm => ?_) (fun hm => ?_)
      · refine j_goto C 161 dX12_soonestOf_107 (by decide) ?_
        refine j_sub (L' := [(0, .ref (G.1 + 84)), (1, .int v1), (2, .int v2), (3, .int v3), (4, .int v4), (5, .int v5), (6, .int v6)]) [0, 1, 2, 3, 4, 5, 6] rfl ?_
        exact w_Mod_soonestOf_161 C O hm
      · refine j_iconst C 0 dX12_soonestOf_110 (by decide) ?_
        refine j_istore C [(7, .int ((0 : Int32))), (0, .ref (G.1 + 84)), (1, .int v1), (2, .int v2), (3, .int v3), (4, .int v4), (5, .int v5), (6, .int v6)] dX12_soonestOf_111 (by decide) rfl ?_
        refine j_sub (L' := [(0, .ref (G.1 + 84)), (1, .int v1), (2, .int v2), (3, .int v3), (4, .int v4), (5, .int v5), (6, .int v6), (7, .int ((0 : Int32)))]) [1, 2, 3, 4, 5, 6, 7, 0] rfl ?_
        exact k_Mod_soonestOf_113 C O hm
theorem k_Mod_soonestOf_76 {G : jG} {X : jX} (C : jC G X cX12_soonestOf 9 RX12 4 143) {v1 : Int32} {v2 : Int32} {v3 : Int32} {v4 : Int32} {v5 : Int32} {v6 : Int32} {h : Hp} {out : ((Int32 × Int32 × Int32 × Int32 × Int32 × Hp) ⊕ (Int32 × Hp))} (O : (O_Mod_soonestOf_3 G X) out) (hm : lp (fun q => s_Mod_soonestOf_76 q.1 q.2.1 q.2.2.1 q.2.2.2.1 q.2.2.2.2.1 q.2.2.2.2.2.1 q.2.2.2.2.2.2) (v1, v2, v3, v4, v5, v6, h) = some out) : J G X 76 [(0, .ref (G.1 + 84)), (1, .int v1), (2, .int v2), (3, .int v3), (4, .int v4), (5, .int v5), (6, .int v6)] [] h :=
  lp_ok (P := P_Mod_soonestOf_76 G X) (O := (O_Mod_soonestOf_3 G X)) (fun q r hm O => w_Mod_soonestOf_76 C O hm) hm O
theorem w_Mod_soonestOf_14 {G : jG} {X : jX} (C : jC G X cX12_soonestOf 9 RX12 4 143) {v1 : Int32} {v2 : Int32} {v3 : Int32} {v4 : Int32} {v5 : Int32} {v6 : Int32} {h : Hp} {out : ((Int32 × Int32 × Int32 × Int32 × Int32 × Int32 × Hp) ⊕ ((Int32 × Int32 × Int32 × Int32 × Int32 × Hp) ⊕ (Int32 × Hp)))} (O : (O_Mod_soonestOf_14 G X) out) (hm : s_Mod_soonestOf_14 v1 v2 v3 v4 v5 v6 h = some out) : J G X 14 [(0, .ref (G.1 + 84)), (1, .int v1), (2, .int v2), (3, .int v3), (4, .int v4), (5, .int v5), (6, .int v6)] [] h := by
  unfold s_Mod_soonestOf_14 at hm
  refine j_iload C 6 dX12_soonestOf_14 rfl ?_
  refine j_bipush C 50 dX12_soonestOf_16 (by decide) ?_
  refine j_if_icmpge C 73 dX12_soonestOf_18 (by decide) hm (fun hm => ?_) (fun hm => ?_)
  · refine j_iconst C 0 dX12_soonestOf_73 (by decide) ?_
    refine j_istore C [(6, .int ((0 : Int32))), (0, .ref (G.1 + 84)), (1, .int v1), (2, .int v2), (3, .int v3), (4, .int v4), (5, .int v5)] dX12_soonestOf_74 (by decide) rfl ?_
    obtain ⟨o_0, hm_0, rfl⟩ := inr_inv hm
    refine j_sub (L' := [(0, .ref (G.1 + 84)), (1, .int v1), (2, .int v2), (3, .int v3), (4, .int v4), (5, .int v5), (6, .int ((0 : Int32)))]) [1, 2, 3, 4, 5, 6, 0] rfl ?_
    exact k_Mod_soonestOf_76 C O hm_0
  · refine j_aload_n C 0 dX12_soonestOf_21 rfl rfl ?_
    refine j_gS C f_X12_70 n_84 q_84_30 dX12_soonestOf_22 ?_
    refine j_bipush C 50 dX12_soonestOf_25 (by decide) ?_
    refine j_iload C 5 dX12_soonestOf_27 rfl ?_
    refine j_imul C dX12_soonestOf_29 ?_
    refine j_iload C 6 dX12_soonestOf_30 rfl ?_
    refine j_iadd C dX12_soonestOf_32 ?_
    refine j_iload C 5 dX12_soonestOf_33 rfl ?_
    refine j_iload_n C 2 dX12_soonestOf_35 rfl rfl ?_
    refine j_if_icmpne C 65 dX12_soonestOf_36 (by decide) hm (fun hm => ?_) (fun hm => ?_)
    · refine j_iload C 6 dX12_soonestOf_39 rfl ?_
      refine j_iload_n C 3 dX12_soonestOf_41 rfl rfl ?_
      refine j_if_icmpne C 65 dX12_soonestOf_42 (by decide) hm (fun hm => ?_) (fun hm => ?_)
      · refine j_aload_n C 0 dX12_soonestOf_45 rfl rfl ?_
        refine j_iload_n C 1 dX12_soonestOf_46 rfl rfl ?_
        refine j_iload C 6 dX12_soonestOf_47 rfl ?_
        refine j_iload C 5 dX12_soonestOf_49 rfl ?_
        refine j_iconst C 0 dX12_soonestOf_51 (by decide) ?_
        refine j_cS C l_X12_351 [.int v5, .int ((0 : Int32))] [.int v6, .int v1, .ref (G.1 + 84), .int ((((50 : Int32)) * v5) + v6), .ref (G.1 + 100)] (fun u1 => some (.int u1)) (fun _ => h) (fun u1 => [.int u1, .int v6, .int v1, .ref (G.1 + 84), .int ((((50 : Int32)) * v5) + v6), .ref (G.1 + 100)]) hm (fun l u hu => c_Mod_minuteOf hu) rfl (Nat.le_of_ble_eq_true rfl) rfl (Nat.le_of_ble_eq_true rfl) (Nat.le_of_ble_eq_true rfl) (fun _ => rfl) dX12_soonestOf_52 (fun u1 hm => ?_)
        refine j_cV C l_X12_354 [.int v1, .int v6, .int u1] [.int ((((50 : Int32)) * v5) + v6), .ref (G.1 + 100)] (fun u2 => some (.int u2)) (fun _ => h) (fun u2 => [.int u2, .int ((((50 : Int32)) * v5) + v6), .ref (G.1 + 100)]) n_84 hm (fun l u hu => c_Mod_canBe hu) rfl (Nat.le_of_ble_eq_true rfl) rfl (Nat.le_of_ble_eq_true rfl) (Nat.le_of_ble_eq_true rfl) (fun _ => rfl) dX12_soonestOf_55 (fun u2 hm => ?_)
        refine j_ifeq C 65 dX12_soonestOf_58 (by decide) hm (fun hm => ?_) (fun hm => ?_)
        · refine j_sub (L' := [(0, .ref (G.1 + 84)), (1, .int v1), (2, .int v2), (3, .int v3), (4, .int v4), (5, .int v5), (6, .int v6)]) [0, 1, 2, 3, 4, 5, 6] rfl ?_
          exact w_Mod_soonestOf_65 C O hm
        · refine j_iconst C 1 dX12_soonestOf_61 (by decide) ?_
          refine j_goto C 66 dX12_soonestOf_62 (by decide) ?_
          refine j_sub (L' := [(0, .ref (G.1 + 84)), (1, .int v1), (2, .int v2), (3, .int v3), (4, .int v4), (5, .int v5), (6, .int v6)]) [0, 1, 2, 3, 4, 5, 6] rfl ?_
          exact w_Mod_soonestOf_66 C O hm
      · refine j_sub (L' := [(0, .ref (G.1 + 84)), (1, .int v1), (2, .int v2), (3, .int v3), (4, .int v4), (5, .int v5), (6, .int v6)]) [0, 1, 2, 3, 4, 5, 6] rfl ?_
        exact w_Mod_soonestOf_65 C O hm
    · refine j_sub (L' := [(0, .ref (G.1 + 84)), (1, .int v1), (2, .int v2), (3, .int v3), (4, .int v4), (5, .int v5), (6, .int v6)]) [0, 1, 2, 3, 4, 5, 6] rfl ?_
      exact w_Mod_soonestOf_65 C O hm
theorem k_Mod_soonestOf_14 {G : jG} {X : jX} (C : jC G X cX12_soonestOf 9 RX12 4 143) {v1 : Int32} {v2 : Int32} {v3 : Int32} {v4 : Int32} {v5 : Int32} {v6 : Int32} {h : Hp} {out : ((Int32 × Int32 × Int32 × Int32 × Int32 × Hp) ⊕ (Int32 × Hp))} (O : (O_Mod_soonestOf_3 G X) out) (hm : lp (fun q => s_Mod_soonestOf_14 q.1 q.2.1 q.2.2.1 q.2.2.2.1 q.2.2.2.2.1 q.2.2.2.2.2.1 q.2.2.2.2.2.2) (v1, v2, v3, v4, v5, v6, h) = some out) : J G X 14 [(0, .ref (G.1 + 84)), (1, .int v1), (2, .int v2), (3, .int v3), (4, .int v4), (5, .int v5), (6, .int v6)] [] h :=
  lp_ok (P := P_Mod_soonestOf_14 G X) (O := (O_Mod_soonestOf_3 G X)) (fun q r hm O => w_Mod_soonestOf_14 C O hm) hm O
theorem w_Mod_soonestOf_3 {G : jG} {X : jX} (C : jC G X cX12_soonestOf 9 RX12 4 143) {v1 : Int32} {v2 : Int32} {v3 : Int32} {v4 : Int32} {v5 : Int32} {h : Hp} {out : ((Int32 × Int32 × Int32 × Int32 × Int32 × Hp) ⊕ (Int32 × Hp))} (O : (O_Mod_soonestOf_3 G X) out) (hm : s_Mod_soonestOf_3 v1 v2 v3 v4 v5 h = some out) : J G X 3 [(0, .ref (G.1 + 84)), (1, .int v1), (2, .int v2), (3, .int v3), (4, .int v4), (5, .int v5)] [] h := by
  unfold s_Mod_soonestOf_3 at hm
  refine j_iload C 5 dX12_soonestOf_3 rfl ?_
  refine j_sipush C 144 dX12_soonestOf_5 (by decide) ?_
  refine j_if_icmpge C 192 dX12_soonestOf_8 (by decide) hm (fun hm => ?_) (fun hm => ?_)
  · refine j_iconst C (-1 : Int32) dX12_soonestOf_192 (by decide) ?_
    obtain rfl := Option.some.inj hm
    exact j_iret C O dX12_soonestOf_193
  · refine j_iconst C 0 dX12_soonestOf_11 (by decide) ?_
    refine j_istore C [(6, .int ((0 : Int32))), (0, .ref (G.1 + 84)), (1, .int v1), (2, .int v2), (3, .int v3), (4, .int v4), (5, .int v5)] dX12_soonestOf_12 (by decide) rfl ?_
    refine j_sub (L' := [(0, .ref (G.1 + 84)), (1, .int v1), (2, .int v2), (3, .int v3), (4, .int v4), (5, .int v5), (6, .int ((0 : Int32)))]) [1, 2, 3, 4, 5, 6, 0] rfl ?_
    exact k_Mod_soonestOf_14 C O hm
theorem k_Mod_soonestOf_3 {G : jG} {X : jX} (C : jC G X cX12_soonestOf 9 RX12 4 143) {v1 : Int32} {v2 : Int32} {v3 : Int32} {v4 : Int32} {v5 : Int32} {h : Hp} {out : (Int32 × Hp)} (O : (O_Mod_soonestOf G X) out) (hm : lp (fun q => s_Mod_soonestOf_3 q.1 q.2.1 q.2.2.1 q.2.2.2.1 q.2.2.2.2.1 q.2.2.2.2.2) (v1, v2, v3, v4, v5, h) = some out) : J G X 3 [(0, .ref (G.1 + 84)), (1, .int v1), (2, .int v2), (3, .int v3), (4, .int v4), (5, .int v5)] [] h :=
  lp_ok (P := P_Mod_soonestOf_3 G X) (O := (O_Mod_soonestOf G X)) (fun q r hm O => w_Mod_soonestOf_3 C O hm) hm O
theorem w_Mod_soonestOf {G : jG} {X : jX} (C : jC G X cX12_soonestOf 9 RX12 4 143) {v1 : Int32} {v2 : Int32} {v3 : Int32} {v4 : Int32} {h : Hp} {out : (Int32 × Hp)} (O : (O_Mod_soonestOf G X) out) (hm : s_Mod_soonestOf v1 v2 v3 v4 h = some out) : J G X 0 [(0, .ref (G.1 + 84)), (1, .int v1), (2, .int v2), (3, .int v3), (4, .int v4)] [] h := by
  unfold s_Mod_soonestOf at hm
  refine j_iload_n C 2 dX12_soonestOf_0 rfl rfl ?_
  refine j_istore C [(5, .int v2), (0, .ref (G.1 + 84)), (1, .int v1), (2, .int v2), (3, .int v3), (4, .int v4)] dX12_soonestOf_1 (by decide) rfl ?_
  refine j_sub (L' := [(0, .ref (G.1 + 84)), (1, .int v1), (2, .int v2), (3, .int v3), (4, .int v4), (5, .int v2)]) [1, 2, 3, 4, 5, 0] rfl ?_
  exact k_Mod_soonestOf_3 C O hm
theorem c_Mod_soonestOf {G : jG} {l : Launch} {v1 : Int32} {v2 : Int32} {v3 : Int32} {v4 : Int32} {h : Hp} {out : (Int32 × Hp)} (hm : s_Mod_soonestOf v1 v2 v3 v4 h = some out) : mt G l yX12_soonestOf cX12_soonestOf 9 (some .int) 4 143 [.ref (G.1 + 84), .int v1, .int v2, .int v3, .int v4] h (some (.int out.1)) out.2 :=
  mt_of (by decide) (Nat.le_of_ble_eq_true rfl) _ rfl (fun X I C O => w_Mod_soonestOf C O hm)
noncomputable def s_Mod_soonest (v1 : Int32) (v2 : Int32) (v3 : Int32) (v4 : Int32) (h : Hp) : Option (Int32 × Hp) :=
  (s_Mod_isWay v1 v2 v3 v4 h).bind fun u1 => if u1 = 0 then
    some ((-1 : Int32), h)
  else
    (s_Mod_looks h).bind fun u2 => (s_Mod_soonestOf v1 v2 v3 v4 u2).bind fun u3 => some (u3.1, u3.2)
def O_Mod_soonest (G : jG) (X : jX) (out : (Int32 × Hp)) : Prop := jO G X (some .int) (some (.int out.1)) out.2
theorem w_Mod_soonest {G : jG} {X : jX} (C : jC G X cX12_soonest 5 RX12 179 4679) {v1 : Int32} {v2 : Int32} {v3 : Int32} {v4 : Int32} {h : Hp} {out : (Int32 × Hp)} (O : (O_Mod_soonest G X) out) (hm : s_Mod_soonest v1 v2 v3 v4 h = some out) : J G X 0 [(0, .ref (G.1 + 84)), (1, .int v1), (2, .int v2), (3, .int v3), (4, .int v4)] [] h := by
  unfold s_Mod_soonest at hm
  refine j_aload_n C 0 dX12_soonest_0 rfl rfl ?_
  refine j_iload_n C 1 dX12_soonest_1 rfl rfl ?_
  refine j_iload_n C 2 dX12_soonest_2 rfl rfl ?_
  refine j_iload_n C 3 dX12_soonest_3 rfl rfl ?_
  refine j_iload C 4 dX12_soonest_4 rfl ?_
  refine j_cV C l_X12_367 [.int v1, .int v2, .int v3, .int v4] [] (fun u1 => some (.int u1)) (fun _ => h) (fun u1 => [.int u1]) n_84 hm (fun l u hu => c_Mod_isWay hu) rfl (Nat.le_of_ble_eq_true rfl) rfl (Nat.le_of_ble_eq_true rfl) (Nat.le_of_ble_eq_true rfl) (fun _ => rfl) dX12_soonest_6 (fun u1 hm => ?_)
  refine j_ifne C 14 dX12_soonest_9 (by decide) hm (fun hm => ?_) (fun hm => ?_)
  · refine j_iconst C (-1 : Int32) dX12_soonest_12 (by decide) ?_
    obtain rfl := Option.some.inj hm
    exact j_iret C O dX12_soonest_13
  · refine j_aload_n C 0 dX12_soonest_14 rfl rfl ?_
    refine j_cV C l_X12_321 [] [] (fun _ => none) (fun u2 => u2) (fun u2 => []) n_84 hm (fun l u hu => c_Mod_looks hu) rfl (Nat.le_of_ble_eq_true rfl) rfl (Nat.le_of_ble_eq_true rfl) (Nat.le_of_ble_eq_true rfl) (fun _ => rfl) dX12_soonest_15 (fun u2 hm => ?_)
    refine j_aload_n C 0 dX12_soonest_18 rfl rfl ?_
    refine j_iload_n C 1 dX12_soonest_19 rfl rfl ?_
    refine j_iload_n C 2 dX12_soonest_20 rfl rfl ?_
    refine j_iload_n C 3 dX12_soonest_21 rfl rfl ?_
    refine j_iload C 4 dX12_soonest_22 rfl ?_
    refine j_cV C l_X12_371 [.int v1, .int v2, .int v3, .int v4] [] (fun u3 => some (.int u3.1)) (fun u3 => u3.2) (fun u3 => [.int u3.1]) n_84 hm (fun l u hu => c_Mod_soonestOf hu) rfl (Nat.le_of_ble_eq_true rfl) rfl (Nat.le_of_ble_eq_true rfl) (Nat.le_of_ble_eq_true rfl) (fun _ => rfl) dX12_soonest_24 (fun u3 hm => ?_)
    obtain rfl := Option.some.inj hm
    exact j_iret C O dX12_soonest_27
theorem c_Mod_soonest {G : jG} {l : Launch} {v1 : Int32} {v2 : Int32} {v3 : Int32} {v4 : Int32} {h : Hp} {out : (Int32 × Hp)} (hm : s_Mod_soonest v1 v2 v3 v4 h = some out) : mt G l yX12_soonest cX12_soonest 5 (some .int) 179 4679 [.ref (G.1 + 84), .int v1, .int v2, .int v3, .int v4] h (some (.int out.1)) out.2 :=
  mt_of (by decide) (Nat.le_of_ble_eq_true rfl) _ rfl (fun X I C O => w_Mod_soonest C O hm)
noncomputable def s_Mod_status (h : Hp) : Option Int32 :=
  some (hI h 84 0)
def O_Mod_status (G : jG) (X : jX) (h : Hp) (out : Int32) : Prop := jO G X (some .int) (some (.int out)) h
theorem w_Mod_status {G : jG} {X : jX} (C : jC G X cX12_status 1 RX12 1 70) {h : Hp} {out : Int32} (O : (O_Mod_status G X h) out) (hm : s_Mod_status h = some out) : J G X 0 [(0, .ref (G.1 + 84))] [] h := by
  unfold s_Mod_status at hm
  refine j_aload_n C 0 dX12_status_0 rfl rfl ?_
  refine j_gI C f_X12_3 n_84 dX12_status_1 ?_
  obtain rfl := Option.some.inj hm
  exact j_iret C O dX12_status_4
theorem c_Mod_status {G : jG} {l : Launch} {h : Hp} {out : Int32} (hm : s_Mod_status h = some out) : mt G l yX12_status cX12_status 1 (some .int) 1 70 [.ref (G.1 + 84)] h (some (.int out)) h :=
  mt_of (by decide) (Nat.le_of_ble_eq_true rfl) _ rfl (fun X I C O => w_Mod_status C O hm)
noncomputable def s_Mod_taken_21 (s0 : Int64) (h : Hp) : Option (Int64 × Hp) :=
  some (s0, h)
noncomputable def s_Mod_taken (v1 : Int32) (h : Hp) : Option (Int64 × Hp) :=
  (s_Mod_lies v1 ((0 : Int32)) ((20 : Int32)) h).bind fun u1 => if u1 = 0 then
    s_Mod_taken_21 ((-1 : Int64)) h
  else
    (s_Mod_takenBy v1 h).bind fun u2 => s_Mod_taken_21 u2.1 u2.2
def O_Mod_taken (G : jG) (X : jX) (out : (Int64 × Hp)) : Prop := jO G X (some .long) (some (.long out.1)) out.2
theorem w_Mod_taken_21 {G : jG} {X : jX} (C : jC G X cX12_taken 2 RX12 179 4685) {s0 : Int64} {h : Hp} {out : (Int64 × Hp)} (O : (O_Mod_taken G X) out) (hm : s_Mod_taken_21 s0 h = some out) : J G X 21 [] [.long s0] h := by
  unfold s_Mod_taken_21 at hm
  obtain rfl := Option.some.inj hm
  exact j_lret C O dX12_taken_21
theorem w_Mod_taken {G : jG} {X : jX} (C : jC G X cX12_taken 2 RX12 179 4685) {v1 : Int32} {h : Hp} {out : (Int64 × Hp)} (O : (O_Mod_taken G X) out) (hm : s_Mod_taken v1 h = some out) : J G X 0 [(0, .ref (G.1 + 84)), (1, .int v1)] [] h := by
  unfold s_Mod_taken at hm
  refine j_iload_n C 1 dX12_taken_0 rfl rfl ?_
  refine j_iconst C 0 dX12_taken_1 (by decide) ?_
  refine j_bipush C 20 dX12_taken_2 (by decide) ?_
  refine j_cS C l_X12_113 [.int v1, .int ((0 : Int32)), .int ((20 : Int32))] [] (fun u1 => some (.int u1)) (fun _ => h) (fun u1 => [.int u1]) hm (fun l u hu => c_Mod_lies hu) rfl (Nat.le_of_ble_eq_true rfl) rfl (Nat.le_of_ble_eq_true rfl) (Nat.le_of_ble_eq_true rfl) (fun _ => rfl) dX12_taken_4 (fun u1 hm => ?_)
  refine j_ifeq C 18 dX12_taken_7 (by decide) hm (fun hm => ?_) (fun hm => ?_)
  · refine j_ldc2 C wd_1878 dX12_taken_18 ?_
    refine j_sub (L' := []) [] rfl ?_
    exact w_Mod_taken_21 C O hm
  · refine j_aload_n C 0 dX12_taken_10 rfl rfl ?_
    refine j_iload_n C 1 dX12_taken_11 rfl rfl ?_
    refine j_cV C l_X12_392 [.int v1] [] (fun u2 => some (.long u2.1)) (fun u2 => u2.2) (fun u2 => [.long u2.1]) n_84 hm (fun l u hu => c_Mod_takenBy hu) rfl (Nat.le_of_ble_eq_true rfl) rfl (Nat.le_of_ble_eq_true rfl) (Nat.le_of_ble_eq_true rfl) (fun _ => rfl) dX12_taken_12 (fun u2 hm => ?_)
    refine j_goto C 21 dX12_taken_15 (by decide) ?_
    refine j_sub (L' := []) [] rfl ?_
    exact w_Mod_taken_21 C O hm
theorem c_Mod_taken {G : jG} {l : Launch} {v1 : Int32} {h : Hp} {out : (Int64 × Hp)} (hm : s_Mod_taken v1 h = some out) : mt G l yX12_taken cX12_taken 2 (some .long) 179 4685 [.ref (G.1 + 84), .int v1] h (some (.long out.1)) out.2 :=
  mt_of (by decide) (Nat.le_of_ble_eq_true rfl) _ rfl (fun X I C O => w_Mod_taken C O hm)
noncomputable def s_Mod_tear (h : Hp) : Option (Int32 × Hp) :=
  ib ((187 : Int32)) 4998 <| ib ((187 : Int32)) 4998 <| lt (sI h 86 (ix ((187 : Int32))) ((0 : Int32))) fun h1 => some (hI h 86 (ix ((187 : Int32))), sI h1 84 1 ((hI h1 84 1) + ((1 : Int32))))
def O_Mod_tear (G : jG) (X : jX) (out : (Int32 × Hp)) : Prop := jO G X (some .int) (some (.int out.1)) out.2
theorem w_Mod_tear {G : jG} {X : jX} (C : jC G X cX12_tear 2 RX12 1 70) {h : Hp} {out : (Int32 × Hp)} (O : (O_Mod_tear G X) out) (hm : s_Mod_tear h = some out) : J G X 0 [(0, .ref (G.1 + 84))] [] h := by
  unfold s_Mod_tear at hm
  refine j_aload_n C 0 dX12_tear_0 rfl rfl ?_
  refine j_gS C f_X12_20 n_84 q_84_3 dX12_tear_1 ?_
  refine j_sipush C 187 dX12_tear_4 (by decide) ?_
  refine j_iald C n_86 hm dX12_tear_7 (fun hm => ?_)
  refine j_istore_n C [(1, .int (hI h 86 (ix ((187 : Int32))))), (0, .ref (G.1 + 84))] dX12_tear_8 rfl (by decide) rfl ?_
  refine j_aload_n C 1 dX12_tear_9 rfl rfl ?_
  refine j_gS C f_X12_20 n_84 q_84_3 dX12_tear_10 ?_
  refine j_sipush C 187 dX12_tear_13 (by decide) ?_
  refine j_iconst C 0 dX12_tear_16 (by decide) ?_
  refine j_iast C n_86 hm dX12_tear_17 (fun hm => ?_)
  refine j_aload_n C 1 dX12_tear_18 rfl rfl ?_
  refine j_dup C dX12_tear_19 rfl ?_
  refine j_nmH hm (fun h1 hm => ?_)
  refine j_gI C f_X12_11 n_84 dX12_tear_20 ?_
  refine j_iconst C 1 dX12_tear_23 (by decide) ?_
  refine j_iadd C dX12_tear_24 ?_
  refine j_pI C f_X12_11 n_84 dX12_tear_25 ?_
  refine j_iload_n C 0 dX12_tear_28 rfl rfl ?_
  obtain rfl := Option.some.inj hm
  exact j_iret C O dX12_tear_29
theorem c_Mod_tear {G : jG} {l : Launch} {h : Hp} {out : (Int32 × Hp)} (hm : s_Mod_tear h = some out) : mt G l yX12_tear cX12_tear 2 (some .int) 1 70 [.ref (G.1 + 84)] h (some (.int out.1)) out.2 :=
  mt_of (by decide) (Nat.le_of_ble_eq_true rfl) _ rfl (fun X I C O => w_Mod_tear C O hm)
noncomputable def s_Mod_tells_55 (v1 : Int32) (v2 : Int32) (v3 : Int32) (v4 : Int32) (h : Hp) : Option ((Int32 × Int32 × Int32 × Int32 × Hp) ⊕ (Int32 × Hp)) :=
  some (.inl (v1, v2, v3, (v4 + (1 : Int32)), h))
noncomputable def s_Mod_tells_16 (v1 : Int32) (v2 : Int32) (v3 : Int32) (v4 : Int32) (h : Hp) : Option ((Int32 × Int32 × Int32 × Int32 × Hp) ⊕ (Int32 × Hp)) :=
  ib ((188 : Int32)) 4998 <| if (hI h 86 (ix ((188 : Int32)))) ≤ v4 then
    some (.inr (v2, h))
  else
    (s_Mod_agrees v1 v4 h).bind fun u1 => if v3 < (hI u1 84 39) then
      s_Mod_tells_55 v1 v4 (hI u1 84 39) v4 u1
    else
      s_Mod_tells_55 v1 v2 v3 v4 u1
noncomputable def s_Mod_tells (v1 : Int32) (h : Hp) : Option (Int32 × Hp) :=
  (s_Mod_isMoon v1 h).bind fun u1 => if u1 = 0 then
    some ((-1 : Int32), h)
  else
    lp (fun q => s_Mod_tells_16 q.1 q.2.1 q.2.2.1 q.2.2.2.1 q.2.2.2.2) (v1, ((-1 : Int32)), ((-1 : Int32)), ((0 : Int32)), h)
def O_Mod_tells (G : jG) (X : jX) (out : (Int32 × Hp)) : Prop := jO G X (some .int) (some (.int out.1)) out.2
def P_Mod_tells_16 (G : jG) (X : jX) (q : Int32 × Int32 × Int32 × Int32 × Hp) : Prop := J G X 16 [(0, .ref (G.1 + 84)), (1, .int q.1), (2, .int q.2.1), (3, .int q.2.2.1), (4, .int q.2.2.2.1)] [] q.2.2.2.2
def O_Mod_tells_16 (G : jG) (X : jX) (t : ((Int32 × Int32 × Int32 × Int32 × Hp) ⊕ (Int32 × Hp))) : Prop := Sum.elim (P_Mod_tells_16 G X) (O_Mod_tells G X) t
theorem w_Mod_tells_55 {G : jG} {X : jX} (C : jC G X cX12_tells 5 RX12 6 190) {v1 : Int32} {v2 : Int32} {v3 : Int32} {v4 : Int32} {h : Hp} {out : ((Int32 × Int32 × Int32 × Int32 × Hp) ⊕ (Int32 × Hp))} (O : (O_Mod_tells_16 G X) out) (hm : s_Mod_tells_55 v1 v2 v3 v4 h = some out) : J G X 55 [(0, .ref (G.1 + 84)), (1, .int v1), (2, .int v2), (3, .int v3), (4, .int v4)] [] h := by
  unfold s_Mod_tells_55 at hm
  refine j_iinc C 4 [(4, .int (v4 + (1 : Int32))), (0, .ref (G.1 + 84)), (1, .int v1), (2, .int v2), (3, .int v3)] dX12_tells_55 rfl (add_lit (by decide)) (by decide) rfl ?_
  refine j_goto C 16 dX12_tells_58 (by decide) ?_
  obtain rfl := Option.some.inj hm
  refine j_sub (L' := [(0, .ref (G.1 + 84)), (1, .int v1), (2, .int v2), (3, .int v3), (4, .int (v4 + (1 : Int32)))]) [1, 2, 3, 4, 0] rfl ?_
  exact O
theorem w_Mod_tells_16 {G : jG} {X : jX} (C : jC G X cX12_tells 5 RX12 6 190) {v1 : Int32} {v2 : Int32} {v3 : Int32} {v4 : Int32} {h : Hp} {out : ((Int32 × Int32 × Int32 × Int32 × Hp) ⊕ (Int32 × Hp))} (O : (O_Mod_tells_16 G X) out) (hm : s_Mod_tells_16 v1 v2 v3 v4 h = some out) : J G X 16 [(0, .ref (G.1 + 84)), (1, .int v1), (2, .int v2), (3, .int v3), (4, .int v4)] [] h := by
  unfold s_Mod_tells_16 at hm
  refine j_iload C 4 dX12_tells_16 rfl ?_
  refine j_aload_n C 0 dX12_tells_18 rfl rfl ?_
  refine j_gS C f_X12_20 n_84 q_84_3 dX12_tells_19 ?_
  refine j_sipush C 188 dX12_tells_22 (by decide) ?_
  refine j_iald C n_86 hm dX12_tells_25 (fun hm => ?_)
  refine j_if_icmpge C 61 dX12_tells_26 (by decide) hm (fun hm => ?_) (fun hm => ?_)
  · refine j_iload_n C 2 dX12_tells_61 rfl rfl ?_
    obtain rfl := Option.some.inj hm
    exact j_iret C O dX12_tells_62
  · refine j_aload_n C 0 dX12_tells_29 rfl rfl ?_
    refine j_iload_n C 1 dX12_tells_30 rfl rfl ?_
    refine j_iload C 4 dX12_tells_31 rfl ?_
    refine j_cV C l_X12_416 [.int v1, .int v4] [] (fun _ => none) (fun u1 => u1) (fun u1 => []) n_84 hm (fun l u hu => c_Mod_agrees hu) rfl (Nat.le_of_ble_eq_true rfl) rfl (Nat.le_of_ble_eq_true rfl) (Nat.le_of_ble_eq_true rfl) (fun _ => rfl) dX12_tells_33 (fun u1 hm => ?_)
    refine j_aload_n C 0 dX12_tells_36 rfl rfl ?_
    refine j_gI C f_X12_398 n_84 dX12_tells_37 ?_
    refine j_iload_n C 3 dX12_tells_40 rfl rfl ?_
    refine j_if_icmpgt C 47 dX12_tells_41 (by decide) hm (fun hm => ?_) (fun hm => ?_)
    · refine j_iload C 4 dX12_tells_47 rfl ?_
      refine j_istore_n C [(2, .int v4), (0, .ref (G.1 + 84)), (1, .int v1), (3, .int v3), (4, .int v4)] dX12_tells_49 rfl (by decide) rfl ?_
      refine j_aload_n C 1 dX12_tells_50 rfl rfl ?_
      refine j_gI C f_X12_398 n_84 dX12_tells_51 ?_
      refine j_istore_n C [(3, .int (hI u1 84 39)), (2, .int v4), (0, .ref (G.1 + 84)), (1, .int v1), (4, .int v4)] dX12_tells_54 rfl (by decide) rfl ?_
      refine j_sub (L' := [(0, .ref (G.1 + 84)), (1, .int v1), (2, .int v4), (3, .int (hI u1 84 39)), (4, .int v4)]) [2, 3, 1, 0, 4] rfl ?_
      exact w_Mod_tells_55 C O hm
    · refine j_goto C 55 dX12_tells_44 (by decide) ?_
      refine j_sub (L' := [(0, .ref (G.1 + 84)), (1, .int v1), (2, .int v2), (3, .int v3), (4, .int v4)]) [0, 1, 2, 3, 4] rfl ?_
      exact w_Mod_tells_55 C O hm
theorem k_Mod_tells_16 {G : jG} {X : jX} (C : jC G X cX12_tells 5 RX12 6 190) {v1 : Int32} {v2 : Int32} {v3 : Int32} {v4 : Int32} {h : Hp} {out : (Int32 × Hp)} (O : (O_Mod_tells G X) out) (hm : lp (fun q => s_Mod_tells_16 q.1 q.2.1 q.2.2.1 q.2.2.2.1 q.2.2.2.2) (v1, v2, v3, v4, h) = some out) : J G X 16 [(0, .ref (G.1 + 84)), (1, .int v1), (2, .int v2), (3, .int v3), (4, .int v4)] [] h :=
  lp_ok (P := P_Mod_tells_16 G X) (O := (O_Mod_tells G X)) (fun q r hm O => w_Mod_tells_16 C O hm) hm O
theorem w_Mod_tells {G : jG} {X : jX} (C : jC G X cX12_tells 5 RX12 6 190) {v1 : Int32} {h : Hp} {out : (Int32 × Hp)} (O : (O_Mod_tells G X) out) (hm : s_Mod_tells v1 h = some out) : J G X 0 [(0, .ref (G.1 + 84)), (1, .int v1)] [] h := by
  unfold s_Mod_tells at hm
  refine j_iload_n C 1 dX12_tells_0 rfl rfl ?_
  refine j_cS C l_X12_132 [.int v1] [] (fun u1 => some (.int u1)) (fun _ => h) (fun u1 => [.int u1]) hm (fun l u hu => c_Mod_isMoon hu) rfl (Nat.le_of_ble_eq_true rfl) rfl (Nat.le_of_ble_eq_true rfl) (Nat.le_of_ble_eq_true rfl) (fun _ => rfl) dX12_tells_1 (fun u1 hm => ?_)
  refine j_ifne C 9 dX12_tells_4 (by decide) hm (fun hm => ?_) (fun hm => ?_)
  · refine j_iconst C (-1 : Int32) dX12_tells_7 (by decide) ?_
    obtain rfl := Option.some.inj hm
    exact j_iret C O dX12_tells_8
  · refine j_iconst C (-1 : Int32) dX12_tells_9 (by decide) ?_
    refine j_istore_n C [(2, .int ((-1 : Int32))), (0, .ref (G.1 + 84)), (1, .int v1)] dX12_tells_10 rfl (by decide) rfl ?_
    refine j_iconst C (-1 : Int32) dX12_tells_11 (by decide) ?_
    refine j_istore_n C [(3, .int ((-1 : Int32))), (2, .int ((-1 : Int32))), (0, .ref (G.1 + 84)), (1, .int v1)] dX12_tells_12 rfl (by decide) rfl ?_
    refine j_iconst C 0 dX12_tells_13 (by decide) ?_
    refine j_istore C [(4, .int ((0 : Int32))), (3, .int ((-1 : Int32))), (2, .int ((-1 : Int32))), (0, .ref (G.1 + 84)), (1, .int v1)] dX12_tells_14 (by decide) rfl ?_
    refine j_sub (L' := [(0, .ref (G.1 + 84)), (1, .int v1), (2, .int ((-1 : Int32))), (3, .int ((-1 : Int32))), (4, .int ((0 : Int32)))]) [3, 4, 2, 1, 0] rfl ?_
    exact k_Mod_tells_16 C O hm
theorem c_Mod_tells {G : jG} {l : Launch} {v1 : Int32} {h : Hp} {out : (Int32 × Hp)} (hm : s_Mod_tells v1 h = some out) : mt G l yX12_tells cX12_tells 5 (some .int) 6 190 [.ref (G.1 + 84), .int v1] h (some (.int out.1)) out.2 :=
  mt_of (by decide) (Nat.le_of_ble_eq_true rfl) _ rfl (fun X I C O => w_Mod_tells C O hm)
