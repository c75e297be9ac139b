noncomputable def s_Soundings_weigh_69 (v1 : Int32) (v2 : Int32) (v3 : Int32) (v4 : Int32) (v5 : Int32) (h : Hp) : Option ((Int32 × Int32 × Int32 × Int32 × Int32 × Hp) ⊕ Hp) :=
  some (.inl (v1, v2, v3, v4, (v5 + (1 : Int32)), h))
noncomputable def s_Soundings_weigh_104 (h : Hp) : Option Hp :=
  some h
noncomputable def s_Soundings_weigh_75 (v1 : Int32) (v2 : Int32) (v3 : Int32) (v4 : Int32) (h : Hp) : Option Hp :=
  if v3 = 0 then
    (s_Soundings_keepPair v1 v2 h).bind fun u1 => s_Soundings_weigh_104 u1
  else
    if v3 = ((1 : Int32)) then
      ib v4 12 <| ib v4 12 <| s_Soundings_weigh_104 (sI h 77 (ix v4) ((hI h 77 (ix v4)) + ((1 : Int32))))
    else
      s_Soundings_weigh_104 h
noncomputable def s_Soundings_weigh_8 (v1 : Int32) (v2 : Int32) (v3 : Int32) (v4 : Int32) (v5 : Int32) (h : Hp) : Option ((Int32 × Int32 × Int32 × Int32 × Int32 × Hp) ⊕ Hp) :=
  if (hI h 1 18) ≤ v5 then
    inr (s_Soundings_weigh_75 v1 v2 v3 v4 h)
  else
    if ((2 : Int32)) ≤ v3 then
      inr (s_Soundings_weigh_75 v1 v2 v3 v4 h)
    else
      ib v5 12 <| ib v5 12 <| ib ((8 : Int32)) 11 <| if (z_abs (((v1 * (hI h 76 (ix v5))) / ((1000 : Int32))) - (hI h 75 (ix v5)))) ≤ (hI h 4 (ix ((8 : Int32)))) then
        s_Soundings_weigh_69 v1 v2 v3 v4 v5 h
      else
        s_Soundings_weigh_69 v1 v2 (v3 + (1 : Int32)) v5 v5 h
noncomputable def s_Soundings_weigh (v1 : Int32) (v2 : Int32) (h : Hp) : Option Hp :=
  lp (fun q => s_Soundings_weigh_8 q.1 q.2.1 q.2.2.1 q.2.2.2.1 q.2.2.2.2.1 q.2.2.2.2.2) (v1, v2, ((0 : Int32)), ((-1 : Int32)), ((0 : Int32)), h)
def O_Soundings_weigh (G : jG) (X : jX) (out : Hp) : Prop := jO G X (none) none out
def P_Soundings_weigh_8 (G : jG) (X : jX) (q : Int32 × Int32 × Int32 × Int32 × Int32 × Hp) : Prop := J G X 8 [(0, .ref (G.1 + 74)), (1, .int q.1), (2, .int q.2.1), (3, .int q.2.2.1), (4, .int q.2.2.2.1), (5, .int q.2.2.2.2.1)] [] q.2.2.2.2.2
def O_Soundings_weigh_8 (G : jG) (X : jX) (t : ((Int32 × Int32 × Int32 × Int32 × Int32 × Hp) ⊕ Hp)) : Prop := Sum.elim (P_Soundings_weigh_8 G X) (O_Soundings_weigh G X) t
theorem w_Soundings_weigh_69 {G : jG} {X : jX} (C : jC G X cX5_weigh 6 RX5 2 92) {v1 : Int32} {v2 : Int32} {v3 : Int32} {v4 : Int32} {v5 : Int32} {h : Hp} {out : ((Int32 × Int32 × Int32 × Int32 × Int32 × Hp) ⊕ Hp)} (O : (O_Soundings_weigh_8 G X) out) (hm : s_Soundings_weigh_69 v1 v2 v3 v4 v5 h = some out) : J G X 69 [(0, .ref (G.1 + 74)), (1, .int v1), (2, .int v2), (3, .int v3), (4, .int v4), (5, .int v5)] [] h := by
  unfold s_Soundings_weigh_69 at hm
  refine j_iinc C 5 [(5, .int (v5 + (1 : Int32))), (0, .ref (G.1 + 74)), (1, .int v1), (2, .int v2), (3, .int v3), (4, .int v4)] dX5_weigh_69 rfl (add_lit (by decide)) (by decide) rfl ?_
  refine j_goto C 8 dX5_weigh_72 (by decide) ?_
  obtain rfl := Option.some.inj hm
  refine j_sub (L' := [(0, .ref (G.1 + 74)), (1, .int v1), (2, .int v2), (3, .int v3), (4, .int v4), (5, .int (v5 + (1 : Int32)))]) [1, 2, 3, 4, 5, 0] rfl ?_
  exact O
theorem w_Soundings_weigh_104 {G : jG} {X : jX} (C : jC G X cX5_weigh 6 RX5 2 92) {h : Hp} {out : Hp} (O : (O_Soundings_weigh G X) out) (hm : s_Soundings_weigh_104 h = some out) : J G X 104 [] [] h := by
  unfold s_Soundings_weigh_104 at hm
  obtain rfl := Option.some.inj hm
  exact j_vret C O dX5_weigh_104
theorem w_Soundings_weigh_75 {G : jG} {X : jX} (C : jC G X cX5_weigh 6 RX5 2 92) {v1 : Int32} {v2 : Int32} {v3 : Int32} {v4 : Int32} {h : Hp} {out : Hp} (O : (O_Soundings_weigh G X) out) (hm : s_Soundings_weigh_75 v1 v2 v3 v4 h = some out) : J G X 75 [(0, .ref (G.1 + 74)), (1, .int v1), (2, .int v2), (3, .int v3), (4, .int v4)] [] h := by
  unfold s_Soundings_weigh_75 at hm
  refine j_iload_n C 3 dX5_weigh_75 rfl rfl ?_
  refine j_ifne C 88 dX5_weigh_76 (by decide) hm (fun hm => ?_) (fun hm => ?_)
  · refine j_aload_n C 0 dX5_weigh_79 rfl rfl ?_
    refine j_iload_n C 1 dX5_weigh_80 rfl rfl ?_
    refine j_iload_n C 2 dX5_weigh_81 rfl rfl ?_
    refine j_cV C l_X5_106 [.int v1, .int v2] [] (fun _ => none) (fun u1 => u1) (fun u1 => []) n_74 hm (fun l u hu => c_Soundings_keepPair hu) rfl (Nat.le_of_ble_eq_true rfl) rfl (Nat.le_of_ble_eq_true rfl) (Nat.le_of_ble_eq_true rfl) (fun _ => rfl) dX5_weigh_82 (fun u1 hm => ?_)
    refine j_goto C 104 dX5_weigh_85 (by decide) ?_
    refine j_sub (L' := []) [] rfl ?_
    exact w_Soundings_weigh_104 C O hm
  · refine j_iload_n C 3 dX5_weigh_88 rfl rfl ?_
    refine j_iconst C 1 dX5_weigh_89 (by decide) ?_
    refine j_if_icmpne C 104 dX5_weigh_90 (by decide) hm (fun hm => ?_) (fun hm => ?_)
    · refine j_aload_n C 0 dX5_weigh_93 rfl rfl ?_
      refine j_gS C f_X5_18 n_74 q_74_4 dX5_weigh_94 ?_
      refine j_iload C 4 dX5_weigh_97 rfl ?_
      refine j_dup2_11 C dX5_weigh_99 rfl rfl ?_
      refine j_iald C n_77 hm dX5_weigh_100 (fun hm => ?_)
      refine j_iconst C 1 dX5_weigh_101 (by decide) ?_
      refine j_iadd C dX5_weigh_102 ?_
      refine j_iast C n_77 hm dX5_weigh_103 (fun hm => ?_)
      refine j_sub (L' := []) [] rfl ?_
      exact w_Soundings_weigh_104 C O hm
    · refine j_sub (L' := []) [] rfl ?_
      exact w_Soundings_weigh_104 C O hm
theorem w_Soundings_weigh_8 {G : jG} {X : jX} (C : jC G X cX5_weigh 6 RX5 2 92) {v1 : Int32} {v2 : Int32} {v3 : Int32} {v4 : Int32} {v5 : Int32} {h : Hp} {out : ((Int32 × Int32 × Int32 × Int32 × Int32 × Hp) ⊕ Hp)} (O : (O_Soundings_weigh_8 G X) out) (hm : s_Soundings_weigh_8 v1 v2 v3 v4 v5 h = some out) : J G X 8 [(0, .ref (G.1 + 74)), (1, .int v1), (2, .int v2), (3, .int v3), (4, .int v4), (5, .int v5)] [] h := by
  unfold s_Soundings_weigh_8 at hm
  refine j_iload C 5 dX5_weigh_8 rfl ?_
  refine j_aload_n C 0 dX5_weigh_10 rfl rfl ?_
  refine j_gS C f_X5_43 n_74 q_74_0 dX5_weigh_11 ?_
  refine j_gI C f_X5_70 n_1 dX5_weigh_14 ?_
  refine j_if_icmpge C 75 dX5_weigh_17 (by decide) hm (fun hm => ?_) (fun hm => ?_)
  · obtain ⟨o_0, hm_0, rfl⟩ := inr_inv hm
    refine j_sub (L' := [(0, .ref (G.1 + 74)), (1, .int v1), (2, .int v2), (3, .int v3), (4, .int v4)]) [0, 1, 2, 3, 4] rfl ?_
    exact w_Soundings_weigh_75 C O hm_0
  · refine j_iload_n C 3 dX5_weigh_20 rfl rfl ?_
    refine j_iconst C 2 dX5_weigh_21 (by decide) ?_
    refine j_if_icmpge C 75 dX5_weigh_22 (by decide) hm (fun hm => ?_) (fun hm => ?_)
    · obtain ⟨o_0, hm_0, rfl⟩ := inr_inv hm
      refine j_sub (L' := [(0, .ref (G.1 + 74)), (1, .int v1), (2, .int v2), (3, .int v3), (4, .int v4)]) [0, 1, 2, 3, 4] rfl ?_
      exact w_Soundings_weigh_75 C O hm_0
    · refine j_iload_n C 1 dX5_weigh_25 rfl rfl ?_
      refine j_aload_n C 0 dX5_weigh_26 rfl rfl ?_
      refine j_gS C f_X5_15 n_74 q_74_3 dX5_weigh_27 ?_
      refine j_iload C 5 dX5_weigh_30 rfl ?_
      refine j_iald C n_76 hm dX5_weigh_32 (fun hm => ?_)
      refine j_imul C dX5_weigh_33 ?_
      refine j_sipush C 1000 dX5_weigh_34 (by decide) ?_
      refine j_idiv C dX5_weigh_37 (by decide) ?_
      refine j_aload_n C 0 dX5_weigh_38 rfl rfl ?_
      refine j_gS C f_X5_9 n_74 q_74_2 dX5_weigh_39 ?_
      refine j_iload C 5 dX5_weigh_42 rfl ?_
      refine j_iald C n_75 hm dX5_weigh_44 (fun hm => ?_)
      refine j_isub C dX5_weigh_45 ?_
      refine j_mabs C wd_1216 wd_942 wd_126 wd_943 (Nat.le_of_ble_eq_true rfl) (Nat.le_of_ble_eq_true rfl) dX5_weigh_46 ?_
      refine j_aload_n C 0 dX5_weigh_49 rfl rfl ?_
      refine j_gS C f_X5_43 n_74 q_74_0 dX5_weigh_50 ?_
      refine j_gS C f_X5_103 n_1 q_1_2 dX5_weigh_53 ?_
      refine j_bipush C 8 dX5_weigh_56 (by decide) ?_
      refine j_iald C n_4 hm dX5_weigh_58 (fun hm => ?_)
      refine j_if_icmple C 69 dX5_weigh_59 (by decide) hm (fun hm => ?_) (fun hm => ?_)
      · refine j_sub (L' := [(0, .ref (G.1 + 74)), (1, .int v1), (2, .int v2), (3, .int v3), (4, .int v4), (5, .int v5)]) [0, 1, 2, 3, 4, 5] rfl ?_
        exact w_Soundings_weigh_69 C O hm
      · refine j_iinc C 3 [(3, .int (v3 + (1 : Int32))), (0, .ref (G.1 + 74)), (1, .int v1), (2, .int v2), (4, .int v4), (5, .int v5)] dX5_weigh_62 rfl (add_lit (by decide)) (by decide) rfl ?_
        refine j_iload C 5 dX5_weigh_65 rfl ?_
        refine j_istore C [(4, .int v5), (3, .int (v3 + (1 : Int32))), (0, .ref (G.1 + 74)), (1, .int v1), (2, .int v2), (5, .int v5)] dX5_weigh_67 (by decide) rfl ?_
        refine j_sub (L' := [(0, .ref (G.1 + 74)), (1, .int v1), (2, .int v2), (3, .int (v3 + (1 : Int32))), (4, .int v5), (5, .int v5)]) [2, 3, 4, 1, 0, 5] rfl ?_
        exact w_Soundings_weigh_69 C O hm
theorem k_Soundings_weigh_8 {G : jG} {X : jX} (C : jC G X cX5_weigh 6 RX5 2 92) {v1 : Int32} {v2 : Int32} {v3 : Int32} {v4 : Int32} {v5 : Int32} {h : Hp} {out : Hp} (O : (O_Soundings_weigh G X) out) (hm : lp (fun q => s_Soundings_weigh_8 q.1 q.2.1 q.2.2.1 q.2.2.2.1 q.2.2.2.2.1 q.2.2.2.2.2) (v1, v2, v3, v4, v5, h) = some out) : J G X 8 [(0, .ref (G.1 + 74)), (1, .int v1), (2, .int v2), (3, .int v3), (4, .int v4), (5, .int v5)] [] h :=
  lp_ok (P := P_Soundings_weigh_8 G X) (O := (O_Soundings_weigh G X)) (fun q r hm O => w_Soundings_weigh_8 C O hm) hm O
theorem w_Soundings_weigh {G : jG} {X : jX} (C : jC G X cX5_weigh 6 RX5 2 92) {v1 : Int32} {v2 : Int32} {h : Hp} {out : Hp} (O : (O_Soundings_weigh G X) out) (hm : s_Soundings_weigh v1 v2 h = some out) : J G X 0 [(0, .ref (G.1 + 74)), (1, .int v1), (2, .int v2)] [] h := by
  unfold s_Soundings_weigh at hm
  refine j_iconst C 0 dX5_weigh_0 (by decide) ?_
  refine j_istore_n C [(3, .int ((0 : Int32))), (0, .ref (G.1 + 74)), (1, .int v1), (2, .int v2)] dX5_weigh_1 rfl (by decide) rfl ?_
  refine j_iconst C (-1 : Int32) dX5_weigh_2 (by decide) ?_
  refine j_istore C [(4, .int ((-1 : Int32))), (3, .int ((0 : Int32))), (0, .ref (G.1 + 74)), (1, .int v1), (2, .int v2)] dX5_weigh_3 (by decide) rfl ?_
  refine j_iconst C 0 dX5_weigh_5 (by decide) ?_
  refine j_istore C [(5, .int ((0 : Int32))), (4, .int ((-1 : Int32))), (3, .int ((0 : Int32))), (0, .ref (G.1 + 74)), (1, .int v1), (2, .int v2)] dX5_weigh_6 (by decide) rfl ?_
  refine j_sub (L' := [(0, .ref (G.1 + 74)), (1, .int v1), (2, .int v2), (3, .int ((0 : Int32))), (4, .int ((-1 : Int32))), (5, .int ((0 : Int32)))]) [3, 4, 5, 2, 1, 0] rfl ?_
  exact k_Soundings_weigh_8 C O hm
theorem c_Soundings_weigh {G : jG} {l : Launch} {v1 : Int32} {v2 : Int32} {h : Hp} {out : Hp} (hm : s_Soundings_weigh v1 v2 h = some out) : mt G l yX5_weigh cX5_weigh 6 (none) 2 92 [.ref (G.1 + 74), .int v1, .int v2] h none out :=
  mt_of (by decide) (Nat.le_of_ble_eq_true rfl) _ rfl (fun X I C O => w_Soundings_weigh C O hm)
noncomputable def s_Water_addMoon_47 (h : Hp) : Option Hp :=
  some h
noncomputable def s_Water_addMoon_51 (v1 : Int32) (v3 : Int32) (v4 : Int32) (v5 : Int32) (v6 : Int32) (h : Hp) : Option ((Int32 × Int32 × Int32 × Int32 × Int32 × Hp) ⊕ Hp) :=
  if ((1440 : Int32)) ≤ v6 then
    some (.inr h)
  else
    ib (v1 + v6) 2880 <| (s_Race_wave v6 v5 v4 h).bind fun u1 => ib (v1 + v6) 2880 <| some (.inl (v1, v3, v4, v5, (v6 + (1 : Int32)), (sI h 54 (ix (v1 + v6)) ((hI h 54 (ix (v1 + v6))) + ((v3 * u1) / ((1000 : Int32)))))))
noncomputable def s_Water_addMoon (v1 : Int32) (v2 : Int32) (h : Hp) : Option Hp :=
  ib (v2 + ((0 : Int32))) 24 <| ib (v2 + ((1 : Int32))) 24 <| ib (v2 + ((2 : Int32))) 24 <| if (hI h 3 (ix (v2 + ((0 : Int32))))) = 0 then
    s_Water_addMoon_47 h
  else
    if 0 < (hI h 3 (ix (v2 + ((1 : Int32))))) then
      lp (fun q => s_Water_addMoon_51 q.1 q.2.1 q.2.2.1 q.2.2.2.1 q.2.2.2.2.1 q.2.2.2.2.2) (v1, (hI h 3 (ix (v2 + ((0 : Int32))))), (hI h 3 (ix (v2 + ((1 : Int32))))), (hI h 3 (ix (v2 + ((2 : Int32))))), ((0 : Int32)), h)
    else
      s_Water_addMoon_47 h
def O_Water_addMoon (G : jG) (X : jX) (out : Hp) : Prop := jO G X (none) none out
def P_Water_addMoon_51 (G : jG) (X : jX) (q : Int32 × Int32 × Int32 × Int32 × Int32 × Hp) : Prop := J G X 51 [(0, .ref (G.1 + 50)), (1, .int q.1), (3, .int q.2.1), (4, .int q.2.2.1), (5, .int q.2.2.2.1), (6, .int q.2.2.2.2.1)] [] q.2.2.2.2.2
def O_Water_addMoon_51 (G : jG) (X : jX) (t : ((Int32 × Int32 × Int32 × Int32 × Int32 × Hp) ⊕ Hp)) : Prop := Sum.elim (P_Water_addMoon_51 G X) (O_Water_addMoon G X) t
theorem w_Water_addMoon_47 {G : jG} {X : jX} (C : jC G X cX9_addMoon 7 RX9 2 93) {h : Hp} {out : Hp} (O : (O_Water_addMoon G X) out) (hm : s_Water_addMoon_47 h = some out) : J G X 47 [] [] h := by
  unfold s_Water_addMoon_47 at hm
  obtain rfl := Option.some.inj hm
  exact j_vret C O dX9_addMoon_47
theorem w_Water_addMoon_51 {G : jG} {X : jX} (C : jC G X cX9_addMoon 7 RX9 2 93) {v1 : Int32} {v3 : Int32} {v4 : Int32} {v5 : Int32} {v6 : Int32} {h : Hp} {out : ((Int32 × Int32 × Int32 × Int32 × Int32 × Hp) ⊕ Hp)} (O : (O_Water_addMoon_51 G X) out) (hm : s_Water_addMoon_51 v1 v3 v4 v5 v6 h = some out) : J G X 51 [(0, .ref (G.1 + 50)), (1, .int v1), (3, .int v3), (4, .int v4), (5, .int v5), (6, .int v6)] [] h := by
  unfold s_Water_addMoon_51 at hm
  refine j_iload C 5 dX9_addMoon_51 rfl ?_
  refine j_sipush C 1440 dX9_addMoon_53 (by decide) ?_
  refine j_if_icmpge C 92 dX9_addMoon_56 (by decide) hm (fun hm => ?_) (fun hm => ?_)
  · obtain rfl := Option.some.inj hm
    exact j_vret C O dX9_addMoon_92
  · refine j_aload_n C 0 dX9_addMoon_59 rfl rfl ?_
    refine j_gS C f_X9_18 n_50 q_50_2 dX9_addMoon_60 ?_
    refine j_iload_n C 1 dX9_addMoon_63 rfl rfl ?_
    refine j_iload C 5 dX9_addMoon_64 rfl ?_
    refine j_iadd C dX9_addMoon_66 ?_
    refine j_dup2_11 C dX9_addMoon_67 rfl rfl ?_
    refine j_iald C n_54 hm dX9_addMoon_68 (fun hm => ?_)
    refine j_iload_n C 2 dX9_addMoon_69 rfl rfl ?_
    refine j_iload C 5 dX9_addMoon_70 rfl ?_
    refine j_iload C 4 dX9_addMoon_72 rfl ?_
    refine j_iload C 3 dX9_addMoon_74 rfl ?_
    refine j_cN C l_X9_86 [.int v6, .int v5, .int v4] [.int v3, .int (hI h 54 (ix (v1 + v6))), .int (v1 + v6), .ref (G.1 + 54)] (fun u1 => some (.int u1)) (fun _ => h) (fun u1 => [.int u1, .int v3, .int (hI h 54 (ix (v1 + v6))), .int (v1 + v6), .ref (G.1 + 54)]) hm (fun l u hu => c_Race_wave hu) rfl (Nat.le_of_ble_eq_true rfl) rfl (Nat.le_of_ble_eq_true rfl) (Nat.le_of_ble_eq_true rfl) (fun _ => rfl) dX9_addMoon_76 (fun u1 hm => ?_)
    refine j_imul C dX9_addMoon_79 ?_
    refine j_sipush C 1000 dX9_addMoon_80 (by decide) ?_
    refine j_idiv C dX9_addMoon_83 (by decide) ?_
    refine j_iadd C dX9_addMoon_84 ?_
    refine j_iast C n_54 hm dX9_addMoon_85 (fun hm => ?_)
    refine j_iinc C 5 [(6, .int (v6 + (1 : Int32))), (0, .ref (G.1 + 50)), (1, .int v1), (3, .int v3), (4, .int v4), (5, .int v5)] dX9_addMoon_86 rfl (add_lit (by decide)) (by decide) rfl ?_
    refine j_goto C 51 dX9_addMoon_89 (by decide) ?_
    obtain rfl := Option.some.inj hm
    refine j_sub (L' := [(0, .ref (G.1 + 50)), (1, .int v1), (3, .int v3), (4, .int v4), (5, .int v5), (6, .int (v6 + (1 : Int32)))]) [1, 2, 3, 4, 5, 0] rfl ?_
    exact O
theorem k_Water_addMoon_51 {G : jG} {X : jX} (C : jC G X cX9_addMoon 7 RX9 2 93) {v1 : Int32} {v3 : Int32} {v4 : Int32} {v5 : Int32} {v6 : Int32} {h : Hp} {out : Hp} (O : (O_Water_addMoon G X) out) (hm : lp (fun q => s_Water_addMoon_51 q.1 q.2.1 q.2.2.1 q.2.2.2.1 q.2.2.2.2.1 q.2.2.2.2.2) (v1, v3, v4, v5, v6, h) = some out) : J G X 51 [(0, .ref (G.1 + 50)), (1, .int v1), (3, .int v3), (4, .int v4), (5, .int v5), (6, .int v6)] [] h :=
  lp_ok (P := P_Water_addMoon_51 G X) (O := (O_Water_addMoon G X)) (fun q r hm O => w_Water_addMoon_51 C O hm) hm O
theorem w_Water_addMoon {G : jG} {X : jX} (C : jC G X cX9_addMoon 7 RX9 2 93) {v1 : Int32} {v2 : Int32} {h : Hp} {out : Hp} (O : (O_Water_addMoon G X) out) (hm : s_Water_addMoon v1 v2 h = some out) : J G X 0 [(0, .ref (G.1 + 50)), (1, .int v1), (2, .int v2)] [] h := by
  unfold s_Water_addMoon at hm
  refine j_aload_n C 0 dX9_addMoon_0 rfl rfl ?_
  refine j_gS C f_X9_58 n_50 q_50_0 dX9_addMoon_1 ?_
  refine j_gS C f_X9_83 n_1 q_1_1 dX9_addMoon_4 ?_
  refine j_iload_n C 2 dX9_addMoon_7 rfl rfl ?_
  refine j_iconst C 0 dX9_addMoon_8 (by decide) ?_
  refine j_iadd C dX9_addMoon_9 ?_
  refine j_iald C n_3 hm dX9_addMoon_10 (fun hm => ?_)
  refine j_istore_n C [(3, .int (hI h 3 (ix (v2 + ((0 : Int32)))))), (0, .ref (G.1 + 50)), (1, .int v1), (2, .int v2)] dX9_addMoon_11 rfl (by decide) rfl ?_
  refine j_aload_n C 1 dX9_addMoon_12 rfl rfl ?_
  refine j_gS C f_X9_58 n_50 q_50_0 dX9_addMoon_13 ?_
  refine j_gS C f_X9_83 n_1 q_1_1 dX9_addMoon_16 ?_
  refine j_iload_n C 3 dX9_addMoon_19 rfl rfl ?_
  refine j_iconst C 1 dX9_addMoon_20 (by decide) ?_
  refine j_iadd C dX9_addMoon_21 ?_
  refine j_iald C n_3 hm dX9_addMoon_22 (fun hm => ?_)
  refine j_istore C [(4, .int (hI h 3 (ix (v2 + ((1 : Int32)))))), (3, .int (hI h 3 (ix (v2 + ((0 : Int32)))))), (0, .ref (G.1 + 50)), (1, .int v1), (2, .int v2)] dX9_addMoon_23 (by decide) rfl ?_
  refine j_aload_n C 2 dX9_addMoon_25 rfl rfl ?_
  refine j_gS C f_X9_58 n_50 q_50_0 dX9_addMoon_26 ?_
  refine j_gS C f_X9_83 n_1 q_1_1 dX9_addMoon_29 ?_
  refine j_iload_n C 4 dX9_addMoon_32 rfl rfl ?_
  refine j_iconst C 2 dX9_addMoon_33 (by decide) ?_
  refine j_iadd C dX9_addMoon_34 ?_
  refine j_iald C n_3 hm dX9_addMoon_35 (fun hm => ?_)
  refine j_istore C [(5, .int (hI h 3 (ix (v2 + ((2 : Int32)))))), (4, .int (hI h 3 (ix (v2 + ((1 : Int32)))))), (3, .int (hI h 3 (ix (v2 + ((0 : Int32)))))), (0, .ref (G.1 + 50)), (1, .int v1), (2, .int v2)] dX9_addMoon_36 (by decide) rfl ?_
  refine j_iload_n C 2 dX9_addMoon_38 rfl rfl ?_
  refine j_ifeq C 47 dX9_addMoon_39 (by decide) hm (fun hm => ?_) (fun hm => ?_)
  · refine j_sub (L' := []) [] rfl ?_
    exact w_Water_addMoon_47 C O hm
  · refine j_iload C 1 dX9_addMoon_42 rfl ?_
    refine j_ifgt C 48 dX9_addMoon_44 (by decide) hm (fun hm => ?_) (fun hm => ?_)
    · refine j_iconst C 0 dX9_addMoon_48 (by decide) ?_
      refine j_istore C [(6, .int ((0 : Int32))), (5, .int (hI h 3 (ix (v2 + ((2 : Int32)))))), (4, .int (hI h 3 (ix (v2 + ((1 : Int32)))))), (3, .int (hI h 3 (ix (v2 + ((0 : Int32)))))), (0, .ref (G.1 + 50)), (1, .int v1), (2, .int v2)] dX9_addMoon_49 (by decide) rfl ?_
      refine j_sub (L' := [(0, .ref (G.1 + 50)), (1, .int v1), (3, .int (hI h 3 (ix (v2 + ((0 : Int32)))))), (4, .int (hI h 3 (ix (v2 + ((1 : Int32)))))), (5, .int (hI h 3 (ix (v2 + ((2 : Int32)))))), (6, .int ((0 : Int32)))]) [4, 5, 3, 2, 1, 0] rfl ?_
      exact k_Water_addMoon_51 C O hm
    · refine j_sub (L' := []) [] rfl ?_
      exact w_Water_addMoon_47 C O hm
theorem c_Water_addMoon {G : jG} {l : Launch} {v1 : Int32} {v2 : Int32} {h : Hp} {out : Hp} (hm : s_Water_addMoon v1 v2 h = some out) : mt G l yX9_addMoon cX9_addMoon 7 (none) 2 93 [.ref (G.1 + 50), .int v1, .int v2] h none out :=
  mt_of (by decide) (Nat.le_of_ble_eq_true rfl) _ rfl (fun X I C O => w_Water_addMoon C O hm)
noncomputable def s_Water_freshenTides_59 (v1 : Int32) (v2 : Int32) (v3 : Int32) (h : Hp) : Option ((Int32 × Int32 × Int32 × Hp) ⊕ ((Int32 × Hp) ⊕ Hp)) :=
  if ((4 : Int32)) ≤ v3 then
    some (.inr (.inl ((v1 + (1 : Int32)), h)))
  else
    (s_Race_moonPlace v1 v3 h).bind fun u1 => (s_Water_addMoon v2 u1 h).bind fun u2 => some (.inl (v1, v2, (v3 + (1 : Int32)), u2))
noncomputable def s_Water_freshenTides_23 (v1 : Int32) (v2 : Int32) (v3 : Int32) (h : Hp) : Option ((Int32 × Int32 × Int32 × Hp) ⊕ ((Int32 × Hp) ⊕ Hp)) :=
  if ((1440 : Int32)) ≤ v3 then
    inr (lp (fun q => s_Water_freshenTides_59 q.1 q.2.1 q.2.2.1 q.2.2.2) (v1, v2, ((0 : Int32)), h))
  else
    ib ((v1 * ((3 : Int32))) + ((0 : Int32))) 6 <| ib (v2 + v3) 2880 <| some (.inl (v1, v2, (v3 + (1 : Int32)), (sI h 54 (ix (v2 + v3)) (hI h 2 (ix ((v1 * ((3 : Int32))) + ((0 : Int32))))))))
noncomputable def s_Water_freshenTides_10 (v1 : Int32) (h : Hp) : Option ((Int32 × Hp) ⊕ Hp) :=
  if ((2 : Int32)) ≤ v1 then
    some (.inr (sI h 50 9 ((1 : Int32))))
  else
    lp (fun q => s_Water_freshenTides_23 q.1 q.2.1 q.2.2.1 q.2.2.2) (v1, (v1 * ((1440 : Int32))), ((0 : Int32)), h)
noncomputable def s_Water_freshenTides (h : Hp) : Option Hp :=
  if (hI h 50 9) = 0 then
    lp (fun q => s_Water_freshenTides_10 q.1 q.2) (((0 : Int32)), h)
  else
    some h
def O_Water_freshenTides (G : jG) (X : jX) (out : Hp) : Prop := jO G X (none) none out
def P_Water_freshenTides_10 (G : jG) (X : jX) (q : Int32 × Hp) : Prop := J G X 10 [(0, .ref (G.1 + 50)), (1, .int q.1)] [] q.2
def O_Water_freshenTides_10 (G : jG) (X : jX) (t : ((Int32 × Hp) ⊕ Hp)) : Prop := Sum.elim (P_Water_freshenTides_10 G X) (O_Water_freshenTides G X) t
def P_Water_freshenTides_23 (G : jG) (X : jX) (q : Int32 × Int32 × Int32 × Hp) : Prop := J G X 23 [(0, .ref (G.1 + 50)), (1, .int q.1), (2, .int q.2.1), (3, .int q.2.2.1)] [] q.2.2.2
def O_Water_freshenTides_23 (G : jG) (X : jX) (t : ((Int32 × Int32 × Int32 × Hp) ⊕ ((Int32 × Hp) ⊕ Hp))) : Prop := Sum.elim (P_Water_freshenTides_23 G X) (O_Water_freshenTides_10 G X) t
def P_Water_freshenTides_59 (G : jG) (X : jX) (q : Int32 × Int32 × Int32 × Hp) : Prop := J G X 59 [(0, .ref (G.1 + 50)), (1, .int q.1), (2, .int q.2.1), (3, .int q.2.2.1)] [] q.2.2.2
def O_Water_freshenTides_59 (G : jG) (X : jX) (t : ((Int32 × Int32 × Int32 × Hp) ⊕ ((Int32 × Hp) ⊕ Hp))) : Prop := Sum.elim (P_Water_freshenTides_59 G X) (O_Water_freshenTides_10 G X) t
theorem w_Water_freshenTides_59 {G : jG} {X : jX} (C : jC G X cX9_freshenTides 4 RX9 3 119) {v1 : Int32} {v2 : Int32} {v3 : Int32} {h : Hp} {out : ((Int32 × Int32 × Int32 × Hp) ⊕ ((Int32 × Hp) ⊕ Hp))} (O : (O_Water_freshenTides_59 G X) out) (hm : s_Water_freshenTides_59 v1 v2 v3 h = some out) : J G X 59 [(0, .ref (G.1 + 50)), (1, .int v1), (2, .int v2), (3, .int v3)] [] h := by
  unfold s_Water_freshenTides_59 at hm
  refine j_iload_n C 3 dX9_freshenTides_59 rfl rfl ?_
  refine j_iconst C 4 dX9_freshenTides_60 (by decide) ?_
  refine j_if_icmpge C 80 dX9_freshenTides_61 (by decide) hm (fun hm => ?_) (fun hm => ?_)
  · refine j_iinc C 1 [(1, .int (v1 + (1 : Int32))), (0, .ref (G.1 + 50)), (2, .int v2), (3, .int v3)] dX9_freshenTides_80 rfl (add_lit (by decide)) (by decide) rfl ?_
    refine j_goto C 10 dX9_freshenTides_83 (by decide) ?_
    obtain rfl := Option.some.inj hm
    refine j_sub (L' := [(0, .ref (G.1 + 50)), (1, .int (v1 + (1 : Int32)))]) [1, 0] rfl ?_
    exact O
  · refine j_aload_n C 0 dX9_freshenTides_64 rfl rfl ?_
    refine j_iload_n C 2 dX9_freshenTides_65 rfl rfl ?_
    refine j_iload_n C 1 dX9_freshenTides_66 rfl rfl ?_
    refine j_iload_n C 3 dX9_freshenTides_67 rfl rfl ?_
    refine j_cN C l_X9_75 [.int v1, .int v3] [.int v2, .ref (G.1 + 50)] (fun u1 => some (.int u1)) (fun _ => h) (fun u1 => [.int u1, .int v2, .ref (G.1 + 50)]) hm (fun l u hu => c_Race_moonPlace hu) rfl (Nat.le_of_ble_eq_true rfl) rfl (Nat.le_of_ble_eq_true rfl) (Nat.le_of_ble_eq_true rfl) (fun _ => rfl) dX9_freshenTides_68 (fun u1 hm => ?_)
    refine j_cV C l_X9_79 [.int v2, .int u1] [] (fun _ => none) (fun u2 => u2) (fun u2 => []) n_50 hm (fun l u hu => c_Water_addMoon hu) rfl (Nat.le_of_ble_eq_true rfl) rfl (Nat.le_of_ble_eq_true rfl) (Nat.le_of_ble_eq_true rfl) (fun _ => rfl) dX9_freshenTides_71 (fun u2 hm => ?_)
    refine j_iinc C 3 [(3, .int (v3 + (1 : Int32))), (0, .ref (G.1 + 50)), (1, .int v1), (2, .int v2)] dX9_freshenTides_74 rfl (add_lit (by decide)) (by decide) rfl ?_
    refine j_goto C 59 dX9_freshenTides_77 (by decide) ?_
    obtain rfl := Option.some.inj hm
    refine j_sub (L' := [(0, .ref (G.1 + 50)), (1, .int v1), (2, .int v2), (3, .int (v3 + (1 : Int32)))]) [1, 2, 3, 0] rfl ?_
    exact O
theorem k_Water_freshenTides_59 {G : jG} {X : jX} (C : jC G X cX9_freshenTides 4 RX9 3 119) {v1 : Int32} {v2 : Int32} {v3 : Int32} {h : Hp} {out : ((Int32 × Hp) ⊕ Hp)} (O : (O_Water_freshenTides_10 G X) out) (hm : lp (fun q => s_Water_freshenTides_59 q.1 q.2.1 q.2.2.1 q.2.2.2) (v1, v2, v3, h) = some out) : J G X 59 [(0, .ref (G.1 + 50)), (1, .int v1), (2, .int v2), (3, .int v3)] [] h :=
  lp_ok (P := P_Water_freshenTides_59 G X) (O := (O_Water_freshenTides_10 G X)) (fun q r hm O => w_Water_freshenTides_59 C O hm) hm O
theorem w_Water_freshenTides_23 {G : jG} {X : jX} (C : jC G X cX9_freshenTides 4 RX9 3 119) {v1 : Int32} {v2 : Int32} {v3 : Int32} {h : Hp} {out : ((Int32 × Int32 × Int32 × Hp) ⊕ ((Int32 × Hp) ⊕ Hp))} (O : (O_Water_freshenTides_23 G X) out) (hm : s_Water_freshenTides_23 v1 v2 v3 h = some out) : J G X 23 [(0, .ref (G.1 + 50)), (1, .int v1), (2, .int v2), (3, .int v3)] [] h := by
  unfold s_Water_freshenTides_23 at hm
  refine j_iload_n C 3 dX9_freshenTides_23 rfl rfl ?_
  refine j_sipush C 1440 dX9_freshenTides_24 (by decide) ?_
  refine j_if_icmpge C 57 dX9_freshenTides_27 (by decide) hm (fun hm => ?_) (fun hm => ?_)
  · refine j_iconst C 0 dX9_freshenTides_57 (by decide) ?_
    refine j_istore_n C [(3, .int ((0 : Int32))), (0, .ref (G.1 + 50)), (1, .int v1), (2, .int v2)] dX9_freshenTides_58 rfl (by decide) rfl ?_
    obtain ⟨o_0, hm_0, rfl⟩ := inr_inv hm
    refine j_sub (L' := [(0, .ref (G.1 + 50)), (1, .int v1), (2, .int v2), (3, .int ((0 : Int32)))]) [1, 2, 3, 0] rfl ?_
    exact k_Water_freshenTides_59 C O hm_0
  · refine j_aload_n C 0 dX9_freshenTides_30 rfl rfl ?_
    refine j_gS C f_X9_18 n_50 q_50_2 dX9_freshenTides_31 ?_
    refine j_iload_n C 2 dX9_freshenTides_34 rfl rfl ?_
    refine j_iload_n C 3 dX9_freshenTides_35 rfl rfl ?_
    refine j_iadd C dX9_freshenTides_36 ?_
    refine j_aload_n C 0 dX9_freshenTides_37 rfl rfl ?_
    refine j_gS C f_X9_58 n_50 q_50_0 dX9_freshenTides_38 ?_
    refine j_gS C f_X9_70 n_1 q_1_0 dX9_freshenTides_41 ?_
    refine j_iload_n C 1 dX9_freshenTides_44 rfl rfl ?_
    refine j_iconst C 3 dX9_freshenTides_45 (by decide) ?_
    refine j_imul C dX9_freshenTides_46 ?_
    refine j_iconst C 0 dX9_freshenTides_47 (by decide) ?_
    refine j_iadd C dX9_freshenTides_48 ?_
    refine j_iald C n_2 hm dX9_freshenTides_49 (fun hm => ?_)
    refine j_iast C n_54 hm dX9_freshenTides_50 (fun hm => ?_)
    refine j_iinc C 3 [(3, .int (v3 + (1 : Int32))), (0, .ref (G.1 + 50)), (1, .int v1), (2, .int v2)] dX9_freshenTides_51 rfl (add_lit (by decide)) (by decide) rfl ?_
    refine j_goto C 23 dX9_freshenTides_54 (by decide) ?_
    obtain rfl := Option.some.inj hm
    refine j_sub (L' := [(0, .ref (G.1 + 50)), (1, .int v1), (2, .int v2), (3, .int (v3 + (1 : Int32)))]) [1, 2, 3, 0] rfl ?_
    exact O
theorem k_Water_freshenTides_23 {G : jG} {X : jX} (C : jC G X cX9_freshenTides 4 RX9 3 119) {v1 : Int32} {v2 : Int32} {v3 : Int32} {h : Hp} {out : ((Int32 × Hp) ⊕ Hp)} (O : (O_Water_freshenTides_10 G X) out) (hm : lp (fun q => s_Water_freshenTides_23 q.1 q.2.1 q.2.2.1 q.2.2.2) (v1, v2, v3, h) = some out) : J G X 23 [(0, .ref (G.1 + 50)), (1, .int v1), (2, .int v2), (3, .int v3)] [] h :=
  lp_ok (P := P_Water_freshenTides_23 G X) (O := (O_Water_freshenTides_10 G X)) (fun q r hm O => w_Water_freshenTides_23 C O hm) hm O
theorem w_Water_freshenTides_10 {G : jG} {X : jX} (C : jC G X cX9_freshenTides 4 RX9 3 119) {v1 : Int32} {h : Hp} {out : ((Int32 × Hp) ⊕ Hp)} (O : (O_Water_freshenTides_10 G X) out) (hm : s_Water_freshenTides_10 v1 h = some out) : J G X 10 [(0, .ref (G.1 + 50)), (1, .int v1)] [] h := by
  unfold s_Water_freshenTides_10 at hm
  refine j_iload_n C 1 dX9_freshenTides_10 rfl rfl ?_
  refine j_iconst C 2 dX9_freshenTides_11 (by decide) ?_
  refine j_if_icmpge C 86 dX9_freshenTides_12 (by decide) hm (fun hm => ?_) (fun hm => ?_)
  · refine j_aload_n C 0 dX9_freshenTides_86 rfl rfl ?_
    refine j_iconst C 1 dX9_freshenTides_87 (by decide) ?_
    refine j_pZ C f_X9_41 n_50 (by decide) dX9_freshenTides_88 ?_
    obtain rfl := Option.some.inj hm
    exact j_vret C O dX9_freshenTides_91
  · refine j_iload_n C 1 dX9_freshenTides_15 rfl rfl ?_
    refine j_sipush C 1440 dX9_freshenTides_16 (by decide) ?_
    refine j_imul C dX9_freshenTides_19 ?_
    refine j_istore_n C [(2, .int (v1 * ((1440 : Int32)))), (0, .ref (G.1 + 50)), (1, .int v1)] dX9_freshenTides_20 rfl (by decide) rfl ?_
    refine j_iconst C 0 dX9_freshenTides_21 (by decide) ?_
    refine j_istore_n C [(3, .int ((0 : Int32))), (2, .int (v1 * ((1440 : Int32)))), (0, .ref (G.1 + 50)), (1, .int v1)] dX9_freshenTides_22 rfl (by decide) rfl ?_
    refine j_sub (L' := [(0, .ref (G.1 + 50)), (1, .int v1), (2, .int (v1 * ((1440 : Int32)))), (3, .int ((0 : Int32)))]) [2, 3, 1, 0] rfl ?_
    exact k_Water_freshenTides_23 C O hm
theorem k_Water_freshenTides_10 {G : jG} {X : jX} (C : jC G X cX9_freshenTides 4 RX9 3 119) {v1 : Int32} {h : Hp} {out : Hp} (O : (O_Water_freshenTides G X) out) (hm : lp (fun q => s_Water_freshenTides_10 q.1 q.2) (v1, h) = some out) : J G X 10 [(0, .ref (G.1 + 50)), (1, .int v1)] [] h :=
  lp_ok (P := P_Water_freshenTides_10 G X) (O := (O_Water_freshenTides G X)) (fun q r hm O => w_Water_freshenTides_10 C O hm) hm O
theorem w_Water_freshenTides {G : jG} {X : jX} (C : jC G X cX9_freshenTides 4 RX9 3 119) {h : Hp} {out : Hp} (O : (O_Water_freshenTides G X) out) (hm : s_Water_freshenTides h = some out) : J G X 0 [(0, .ref (G.1 + 50))] [] h := by
  unfold s_Water_freshenTides at hm
  refine j_aload_n C 0 dX9_freshenTides_0 rfl rfl ?_
  refine j_gZ C f_X9_41 n_50 dX9_freshenTides_1 ?_
  refine j_ifeq C 8 dX9_freshenTides_4 (by decide) hm (fun hm => ?_) (fun hm => ?_)
  · refine j_iconst C 0 dX9_freshenTides_8 (by decide) ?_
    refine j_istore_n C [(1, .int ((0 : Int32))), (0, .ref (G.1 + 50))] dX9_freshenTides_9 rfl (by decide) rfl ?_
    refine j_sub (L' := [(0, .ref (G.1 + 50)), (1, .int ((0 : Int32)))]) [1, 0] rfl ?_
    exact k_Water_freshenTides_10 C O hm
  · obtain rfl := Option.some.inj hm
    exact j_vret C O dX9_freshenTides_7
theorem c_Water_freshenTides {G : jG} {l : Launch} {h : Hp} {out : Hp} (hm : s_Water_freshenTides h = some out) : mt G l yX9_freshenTides cX9_freshenTides 4 (none) 3 119 [.ref (G.1 + 50)] h none out :=
  mt_of (by decide) (Nat.le_of_ble_eq_true rfl) _ rfl (fun X I C O => w_Water_freshenTides C O hm)
noncomputable def s_Water_levelIn (v1 : Int32) (v2 : Int32) (v3 : Int32) (v4 : Int32) (h : Hp) : Option Int32 :=
  ib ((v1 * ((1440 : Int32))) + v2) 2880 <| ib ((v1 * ((3 : Int32))) + ((1 : Int32))) 6 <| ib ((v1 * ((3 : Int32))) + ((2 : Int32))) 6 <| some (((hI h 54 (ix ((v1 * ((1440 : Int32))) + v2))) + ((hI h 2 (ix ((v1 * ((3 : Int32))) + ((1 : Int32))))) * (((1013 : Int32)) - v4))) + ((hI h 2 (ix ((v1 * ((3 : Int32))) + ((2 : Int32))))) * v3))
def O_Water_levelIn (G : jG) (X : jX) (h : Hp) (out : Int32) : Prop := jO G X (some .int) (some (.int out)) h
theorem w_Water_levelIn {G : jG} {X : jX} (C : jC G X cX9_levelIn 5 RX9 1 70) {v1 : Int32} {v2 : Int32} {v3 : Int32} {v4 : Int32} {h : Hp} {out : Int32} (O : (O_Water_levelIn G X h) out) (hm : s_Water_levelIn v1 v2 v3 v4 h = some out) : J G X 0 [(0, .ref (G.1 + 50)), (1, .int v1), (2, .int v2), (3, .int v3), (4, .int v4)] [] h := by
  unfold s_Water_levelIn at hm
  refine j_aload_n C 0 dX9_levelIn_0 rfl rfl ?_
  refine j_gS C f_X9_18 n_50 q_50_2 dX9_levelIn_1 ?_
  refine j_iload_n C 1 dX9_levelIn_4 rfl rfl ?_
  refine j_sipush C 1440 dX9_levelIn_5 (by decide) ?_
  refine j_imul C dX9_levelIn_8 ?_
  refine j_iload_n C 2 dX9_levelIn_9 rfl rfl ?_
  refine j_iadd C dX9_levelIn_10 ?_
  refine j_iald C n_54 hm dX9_levelIn_11 (fun hm => ?_)
  refine j_aload_n C 0 dX9_levelIn_12 rfl rfl ?_
  refine j_gS C f_X9_58 n_50 q_50_0 dX9_levelIn_13 ?_
  refine j_gS C f_X9_70 n_1 q_1_0 dX9_levelIn_16 ?_
  refine j_iload_n C 1 dX9_levelIn_19 rfl rfl ?_
  refine j_iconst C 3 dX9_levelIn_20 (by decide) ?_
  refine j_imul C dX9_levelIn_21 ?_
  refine j_iconst C 1 dX9_levelIn_22 (by decide) ?_
  refine j_iadd C dX9_levelIn_23 ?_
  refine j_iald C n_2 hm dX9_levelIn_24 (fun hm => ?_)
  refine j_sipush C 1013 dX9_levelIn_25 (by decide) ?_
  refine j_iload C 4 dX9_levelIn_28 rfl ?_
  refine j_isub C dX9_levelIn_30 ?_
  refine j_imul C dX9_levelIn_31 ?_
  refine j_iadd C dX9_levelIn_32 ?_
  refine j_aload_n C 0 dX9_levelIn_33 rfl rfl ?_
  refine j_gS C f_X9_58 n_50 q_50_0 dX9_levelIn_34 ?_
  refine j_gS C f_X9_70 n_1 q_1_0 dX9_levelIn_37 ?_
  refine j_iload_n C 1 dX9_levelIn_40 rfl rfl ?_
  refine j_iconst C 3 dX9_levelIn_41 (by decide) ?_
  refine j_imul C dX9_levelIn_42 ?_
  refine j_iconst C 2 dX9_levelIn_43 (by decide) ?_
  refine j_iadd C dX9_levelIn_44 ?_
  refine j_iald C n_2 hm dX9_levelIn_45 (fun hm => ?_)
  refine j_iload_n C 3 dX9_levelIn_46 rfl rfl ?_
  refine j_imul C dX9_levelIn_47 ?_
  refine j_iadd C dX9_levelIn_48 ?_
  obtain rfl := Option.some.inj hm
  exact j_iret C O dX9_levelIn_49
theorem c_Water_levelIn {G : jG} {l : Launch} {v1 : Int32} {v2 : Int32} {v3 : Int32} {v4 : Int32} {h : Hp} {out : Int32} (hm : s_Water_levelIn v1 v2 v3 v4 h = some out) : mt G l yX9_levelIn cX9_levelIn 5 (some .int) 1 70 [.ref (G.1 + 50), .int v1, .int v2, .int v3, .int v4] h (some (.int out)) h :=
  mt_of (by decide) (Nat.le_of_ble_eq_true rfl) _ rfl (fun X I C O => w_Water_levelIn C O hm)
noncomputable def s_Water_levelToday (v1 : Int32) (v2 : Int32) (h : Hp) : Option Int32 :=
  ib ((9 : Int32)) 11 <| ib ((10 : Int32)) 11 <| (s_Water_levelIn v1 v2 (hI h 4 (ix ((9 : Int32)))) (hI h 4 (ix ((10 : Int32)))) h).bind fun u1 => some (u1)
def O_Water_levelToday (G : jG) (X : jX) (h : Hp) (out : Int32) : Prop := jO G X (some .int) (some (.int out)) h
theorem w_Water_levelToday {G : jG} {X : jX} (C : jC G X cX9_levelToday 3 RX9 2 94) {v1 : Int32} {v2 : Int32} {h : Hp} {out : Int32} (O : (O_Water_levelToday G X h) out) (hm : s_Water_levelToday v1 v2 h = some out) : J G X 0 [(0, .ref (G.1 + 50)), (1, .int v1), (2, .int v2)] [] h := by
  unfold s_Water_levelToday at hm
  refine j_aload_n C 0 dX9_levelToday_0 rfl rfl ?_
  refine j_iload_n C 1 dX9_levelToday_1 rfl rfl ?_
  refine j_iload_n C 2 dX9_levelToday_2 rfl rfl ?_
  refine j_aload_n C 0 dX9_levelToday_3 rfl rfl ?_
  refine j_gS C f_X9_58 n_50 q_50_0 dX9_levelToday_4 ?_
  refine j_gS C f_X9_90 n_1 q_1_2 dX9_levelToday_7 ?_
  refine j_bipush C 9 dX9_levelToday_10 (by decide) ?_
  refine j_iald C n_4 hm dX9_levelToday_12 (fun hm => ?_)
  refine j_aload_n C 0 dX9_levelToday_13 rfl rfl ?_
  refine j_gS C f_X9_58 n_50 q_50_0 dX9_levelToday_14 ?_
  refine j_gS C f_X9_90 n_1 q_1_2 dX9_levelToday_17 ?_
  refine j_bipush C 10 dX9_levelToday_20 (by decide) ?_
  refine j_iald C n_4 hm dX9_levelToday_22 (fun hm => ?_)
  refine j_cV C l_X9_93 [.int v1, .int v2, .int (hI h 4 (ix ((9 : Int32)))), .int (hI h 4 (ix ((10 : Int32))))] [] (fun u1 => some (.int u1)) (fun _ => h) (fun u1 => [.int u1]) n_50 hm (fun l u hu => c_Water_levelIn hu) rfl (Nat.le_of_ble_eq_true rfl) rfl (Nat.le_of_ble_eq_true rfl) (Nat.le_of_ble_eq_true rfl) (fun _ => rfl) dX9_levelToday_23 (fun u1 hm => ?_)
  obtain rfl := Option.some.inj hm
  exact j_iret C O dX9_levelToday_26
theorem c_Water_levelToday {G : jG} {l : Launch} {v1 : Int32} {v2 : Int32} {h : Hp} {out : Int32} (hm : s_Water_levelToday v1 v2 h = some out) : mt G l yX9_levelToday cX9_levelToday 3 (some .int) 2 94 [.ref (G.1 + 50), .int v1, .int v2] h (some (.int out)) h :=
  mt_of (by decide) (Nat.le_of_ble_eq_true rfl) _ rfl (fun X I C O => w_Water_levelToday C O hm)
noncomputable def s_Soundings_freshen_197 (v1 : Int32) (v3 : Int32) (v4 : Int32) (v5 : Int32) (h : Hp) : Option ((Int32 × Int32 × Int32 × Int32 × Hp) ⊕ ((Int32 × Int32 × Int32 × Hp) ⊕ Hp)) :=
  if ((500 : Int32)) < v5 then
    some (.inr (.inl (v1, v3, (v4 + (10 : Int32)), h)))
  else
    (s_Soundings_weigh v5 v4 h).bind fun u1 => some (.inl (v1, v3, v4, (v5 + (10 : Int32)), u1))
noncomputable def s_Soundings_freshen_153 (v1 : Int32) (v3 : Int32) (v4 : Int32) (v5 : Int32) (h : Hp) : Option ((Int32 × Int32 × Int32 × Int32 × Hp) ⊕ ((Int32 × Int32 × Int32 × Hp) ⊕ Hp)) :=
  if (hI h 1 18) ≤ v5 then
    inr (lp (fun q => s_Soundings_freshen_197 q.1 q.2.1 q.2.2.1 q.2.2.2.1 q.2.2.2.2) (v1, v3, v4, ((0 : Int32)), h))
  else
    ib v5 12 <| (s_Race_wave (hI h 13 (ix v5)) v4 v3 h).bind fun u1 => ib v5 12 <| some (.inl (v1, v3, v4, (v5 + (1 : Int32)), (sI h 76 (ix v5) u1)))
noncomputable def s_Soundings_freshen_144 (v1 : Int32) (v3 : Int32) (v4 : Int32) (h : Hp) : Option ((Int32 × Int32 × Int32 × Hp) ⊕ Hp) :=
  if v3 ≤ v4 then
    some (.inr (sI h 74 5 v1))
  else
    lp (fun q => s_Soundings_freshen_153 q.1 q.2.1 q.2.2.1 q.2.2.2.1 q.2.2.2.2) (v1, v3, v4, ((0 : Int32)), h)
noncomputable def s_Soundings_freshen_41 (v1 : Int32) (v2 : Int32) (v3 : Int32) (v4 : Int32) (h : Hp) : Option ((Int32 × Int32 × Int32 × Int32 × Hp) ⊕ Hp) :=
  if (hI h 1 18) ≤ v4 then
    (s_Soundings_forgetPairs h).bind fun u1 => inr (lp (fun q => s_Soundings_freshen_144 q.1 q.2.1 q.2.2.1 q.2.2.2) (v1, v3, ((0 : Int32)), u1))
  else
    ib v4 12 <| ib (v2 + ((0 : Int32))) 24 <| ib (v2 + ((2 : Int32))) 24 <| (s_Race_wave (hI h 13 (ix v4)) (hI h 3 (ix (v2 + ((2 : Int32))))) v3 h).bind fun u2 => lt (((hI h 3 (ix (v2 + ((0 : Int32))))) * u2) / ((1000 : Int32))) fun x3 => ib v4 12 <| (s_Water_levelToday ((0 : Int32)) (hI h 13 (ix v4)) h).bind fun u4 => ib v4 12 <| some (.inl (v1, v2, v3, (v4 + (1 : Int32)), (sI h 75 (ix v4) ((hI h 14 (ix v4)) - (u4 - x3)))))
noncomputable def s_Soundings_freshen (v1 : Int32) (h : Hp) : Option Hp :=
  if (hI h 74 5) = v1 then
    some h
  else
    (s_Race_moonPlace ((0 : Int32)) v1 h).bind fun u1 => ib (u1 + ((1 : Int32))) 24 <| lt (z_max ((1 : Int32)) (hI h 3 (ix (u1 + ((1 : Int32)))))) fun x2 => (s_Water_freshenTides h).bind fun u3 => lp (fun q => s_Soundings_freshen_41 q.1 q.2.1 q.2.2.1 q.2.2.2.1 q.2.2.2.2) (v1, u1, x2, ((0 : Int32)), u3)
def O_Soundings_freshen (G : jG) (X : jX) (out : Hp) : Prop := jO G X (none) none out
def P_Soundings_freshen_41 (G : jG) (X : jX) (q : Int32 × Int32 × Int32 × Int32 × Hp) : Prop := J G X 41 [(0, .ref (G.1 + 74)), (1, .int q.1), (2, .int q.2.1), (3, .int q.2.2.1), (4, .int q.2.2.2.1)] [] q.2.2.2.2
def O_Soundings_freshen_41 (G : jG) (X : jX) (t : ((Int32 × Int32 × Int32 × Int32 × Hp) ⊕ Hp)) : Prop := Sum.elim (P_Soundings_freshen_41 G X) (O_Soundings_freshen G X) t
def P_Soundings_freshen_144 (G : jG) (X : jX) (q : Int32 × Int32 × Int32 × Hp) : Prop := J G X 144 [(0, .ref (G.1 + 74)), (1, .int q.1), (3, .int q.2.1), (4, .int q.2.2.1)] [] q.2.2.2
def O_Soundings_freshen_144 (G : jG) (X : jX) (t : ((Int32 × Int32 × Int32 × Hp) ⊕ Hp)) : Prop := Sum.elim (P_Soundings_freshen_144 G X) (O_Soundings_freshen G X) t
def P_Soundings_freshen_153 (G : jG) (X : jX) (q : Int32 × Int32 × Int32 × Int32 × Hp) : Prop := J G X 153 [(0, .ref (G.1 + 74)), (1, .int q.1), (3, .int q.2.1), (4, .int q.2.2.1), (5, .int q.2.2.2.1)] [] q.2.2.2.2
def O_Soundings_freshen_153 (G : jG) (X : jX) (t : ((Int32 × Int32 × Int32 × Int32 × Hp) ⊕ ((Int32 × Int32 × Int32 × Hp) ⊕ Hp))) : Prop := Sum.elim (P_Soundings_freshen_153 G X) (O_Soundings_freshen_144 G X) t
def P_Soundings_freshen_197 (G : jG) (X : jX) (q : Int32 × Int32 × Int32 × Int32 × Hp) : Prop := J G X 197 [(0, .ref (G.1 + 74)), (1, .int q.1), (3, .int q.2.1), (4, .int q.2.2.1), (5, .int q.2.2.2.1)] [] q.2.2.2.2
def O_Soundings_freshen_197 (G : jG) (X : jX) (t : ((Int32 × Int32 × Int32 × Int32 × Hp) ⊕ ((Int32 × Int32 × Int32 × Hp) ⊕ Hp))) : Prop := Sum.elim (P_Soundings_freshen_197 G X) (O_Soundings_freshen_144 G X) t
theorem w_Soundings_freshen_197 {G : jG} {X : jX} (C : jC G X cX5_freshen 7 RX5 4 142) {v1 : Int32} {v3 : Int32} {v4 : Int32} {v5 : Int32} {h : Hp} {out : ((Int32 × Int32 × Int32 × Int32 × Hp) ⊕ ((Int32 × Int32 × Int32 × Hp) ⊕ Hp))} (O : (O_Soundings_freshen_197 G X) out) (hm : s_Soundings_freshen_197 v1 v3 v4 v5 h = some out) : J G X 197 [(0, .ref (G.1 + 74)), (1, .int v1), (3, .int v3), (4, .int v4), (5, .int v5)] [] h := by
  unfold s_Soundings_freshen_197 at hm
  refine j_iload C 4 dX5_freshen_197 rfl ?_
  refine j_sipush C 500 dX5_freshen_199 (by decide) ?_
  refine j_if_icmpgt C 219 dX5_freshen_202 (by decide) hm (fun hm => ?_) (fun hm => ?_)
  · refine j_iinc C 3 [(4, .int (v4 + (10 : Int32))), (0, .ref (G.1 + 74)), (1, .int v1), (3, .int v3), (5, .int v5)] dX5_freshen_219 rfl (add_lit (by decide)) (by decide) rfl ?_
    refine j_goto C 144 dX5_freshen_222 (by decide) ?_
    obtain rfl := Option.some.inj hm
    refine j_sub (L' := [(0, .ref (G.1 + 74)), (1, .int v1), (3, .int v3), (4, .int (v4 + (10 : Int32)))]) [1, 2, 3, 0] rfl ?_
    exact O
  · refine j_aload_n C 0 dX5_freshen_205 rfl rfl ?_
    refine j_iload C 4 dX5_freshen_206 rfl ?_
    refine j_iload C 3 dX5_freshen_208 rfl ?_
    refine j_cV C l_X5_89 [.int v5, .int v4] [] (fun _ => none) (fun u1 => u1) (fun u1 => []) n_74 hm (fun l u hu => c_Soundings_weigh hu) rfl (Nat.le_of_ble_eq_true rfl) rfl (Nat.le_of_ble_eq_true rfl) (Nat.le_of_ble_eq_true rfl) (fun _ => rfl) dX5_freshen_210 (fun u1 hm => ?_)
    refine j_iinc C 4 [(5, .int (v5 + (10 : Int32))), (0, .ref (G.1 + 74)), (1, .int v1), (3, .int v3), (4, .int v4)] dX5_freshen_213 rfl (add_lit (by decide)) (by decide) rfl ?_
    refine j_goto C 197 dX5_freshen_216 (by decide) ?_
    obtain rfl := Option.some.inj hm
    refine j_sub (L' := [(0, .ref (G.1 + 74)), (1, .int v1), (3, .int v3), (4, .int v4), (5, .int (v5 + (10 : Int32)))]) [1, 2, 3, 4, 0] rfl ?_
    exact O
theorem k_Soundings_freshen_197 {G : jG} {X : jX} (C : jC G X cX5_freshen 7 RX5 4 142) {v1 : Int32} {v3 : Int32} {v4 : Int32} {v5 : Int32} {h : Hp} {out : ((Int32 × Int32 × Int32 × Hp) ⊕ Hp)} (O : (O_Soundings_freshen_144 G X) out) (hm : lp (fun q => s_Soundings_freshen_197 q.1 q.2.1 q.2.2.1 q.2.2.2.1 q.2.2.2.2) (v1, v3, v4, v5, h) = some out) : J G X 197 [(0, .ref (G.1 + 74)), (1, .int v1), (3, .int v3), (4, .int v4), (5, .int v5)] [] h :=
  lp_ok (P := P_Soundings_freshen_197 G X) (O := (O_Soundings_freshen_144 G X)) (fun q r hm O => w_Soundings_freshen_197 C O hm) hm O
theorem w_Soundings_freshen_153 {G : jG} {X : jX} (C : jC G X cX5_freshen 7 RX5 4 142) {v1 : Int32} {v3 : Int32} {v4 : Int32} {v5 : Int32} {h : Hp} {out : ((Int32 × Int32 × Int32 × Int32 × Hp) ⊕ ((Int32 × Int32 × Int32 × Hp) ⊕ Hp))} (O : (O_Soundings_freshen_153 G X) out) (hm : s_Soundings_freshen_153 v1 v3 v4 v5 h = some out) : J G X 153 [(0, .ref (G.1 + 74)), (1, .int v1), (3, .int v3), (4, .int v4), (5, .int v5)] [] h := by
  unfold s_Soundings_freshen_153 at hm
  refine j_iload C 4 dX5_freshen_153 rfl ?_
  refine j_aload_n C 0 dX5_freshen_155 rfl rfl ?_
  refine j_gS C f_X5_43 n_74 q_74_0 dX5_freshen_156 ?_
  refine j_gI C f_X5_70 n_1 dX5_freshen_159 ?_
  refine j_if_icmpge C 194 dX5_freshen_162 (by decide) hm (fun hm => ?_) (fun hm => ?_)
  · refine j_iconst C 0 dX5_freshen_194 (by decide) ?_
    refine j_istore C [(5, .int ((0 : Int32))), (0, .ref (G.1 + 74)), (1, .int v1), (3, .int v3), (4, .int v4)] dX5_freshen_195 (by decide) rfl ?_
    obtain ⟨o_0, hm_0, rfl⟩ := inr_inv hm
    refine j_sub (L' := [(0, .ref (G.1 + 74)), (1, .int v1), (3, .int v3), (4, .int v4), (5, .int ((0 : Int32)))]) [1, 2, 3, 4, 0] rfl ?_
    exact k_Soundings_freshen_197 C O hm_0
  · refine j_aload_n C 0 dX5_freshen_165 rfl rfl ?_
    refine j_gS C f_X5_15 n_74 q_74_3 dX5_freshen_166 ?_
    refine j_iload C 4 dX5_freshen_169 rfl ?_
    refine j_aload_n C 0 dX5_freshen_171 rfl rfl ?_
    refine j_gS C f_X5_43 n_74 q_74_0 dX5_freshen_172 ?_
    refine j_gS C f_X5_73 n_1 q_1_11 dX5_freshen_175 ?_
    refine j_iload C 4 dX5_freshen_178 rfl ?_
    refine j_iald C n_13 hm dX5_freshen_180 (fun hm => ?_)
    refine j_iload C 3 dX5_freshen_181 rfl ?_
    refine j_iload_n C 2 dX5_freshen_183 rfl rfl ?_
    refine j_cN C l_X5_76 [.int (hI h 13 (ix v5)), .int v4, .int v3] [.int v5, .ref (G.1 + 76)] (fun u1 => some (.int u1)) (fun _ => h) (fun u1 => [.int u1, .int v5, .ref (G.1 + 76)]) hm (fun l u hu => c_Race_wave hu) rfl (Nat.le_of_ble_eq_true rfl) rfl (Nat.le_of_ble_eq_true rfl) (Nat.le_of_ble_eq_true rfl) (fun _ => rfl) dX5_freshen_184 (fun u1 hm => ?_)
    refine j_iast C n_76 hm dX5_freshen_187 (fun hm => ?_)
    refine j_iinc C 4 [(5, .int (v5 + (1 : Int32))), (0, .ref (G.1 + 74)), (1, .int v1), (3, .int v3), (4, .int v4)] dX5_freshen_188 rfl (add_lit (by decide)) (by decide) rfl ?_
    refine j_goto C 153 dX5_freshen_191 (by decide) ?_
    obtain rfl := Option.some.inj hm
    refine j_sub (L' := [(0, .ref (G.1 + 74)), (1, .int v1), (3, .int v3), (4, .int v4), (5, .int (v5 + (1 : Int32)))]) [1, 2, 3, 4, 0] rfl ?_
    exact O
theorem k_Soundings_freshen_153 {G : jG} {X : jX} (C : jC G X cX5_freshen 7 RX5 4 142) {v1 : Int32} {v3 : Int32} {v4 : Int32} {v5 : Int32} {h : Hp} {out : ((Int32 × Int32 × Int32 × Hp) ⊕ Hp)} (O : (O_Soundings_freshen_144 G X) out) (hm : lp (fun q => s_Soundings_freshen_153 q.1 q.2.1 q.2.2.1 q.2.2.2.1 q.2.2.2.2) (v1, v3, v4, v5, h) = some out) : J G X 153 [(0, .ref (G.1 + 74)), (1, .int v1), (3, .int v3), (4, .int v4), (5, .int v5)] [] h :=
  lp_ok (P := P_Soundings_freshen_153 G X) (O := (O_Soundings_freshen_144 G X)) (fun q r hm O => w_Soundings_freshen_153 C O hm) hm O
theorem w_Soundings_freshen_144 {G : jG} {X : jX} (C : jC G X cX5_freshen 7 RX5 4 142) {v1 : Int32} {v3 : Int32} {v4 : Int32} {h : Hp} {out : ((Int32 × Int32 × Int32 × Hp) ⊕ Hp)} (O : (O_Soundings_freshen_144 G X) out) (hm : s_Soundings_freshen_144 v1 v3 v4 h = some out) : J G X 144 [(0, .ref (G.1 + 74)), (1, .int v1), (3, .int v3), (4, .int v4)] [] h := by
  unfold s_Soundings_freshen_144 at hm
  refine j_iload C 3 dX5_freshen_144 rfl ?_
  refine j_iload_n C 2 dX5_freshen_146 rfl rfl ?_
  refine j_if_icmpge C 225 dX5_freshen_147 (by decide) hm (fun hm => ?_) (fun hm => ?_)
  · refine j_aload_n C 0 dX5_freshen_225 rfl rfl ?_
    refine j_iload_n C 1 dX5_freshen_226 rfl rfl ?_
    refine j_pI C f_X5_21 n_74 dX5_freshen_227 ?_
    obtain rfl := Option.some.inj hm
    exact j_vret C O dX5_freshen_230
  · refine j_iconst C 0 dX5_freshen_150 (by decide) ?_
    refine j_istore C [(5, .int ((0 : Int32))), (0, .ref (G.1 + 74)), (1, .int v1), (3, .int v3), (4, .int v4)] dX5_freshen_151 (by decide) rfl ?_
    refine j_sub (L' := [(0, .ref (G.1 + 74)), (1, .int v1), (3, .int v3), (4, .int v4), (5, .int ((0 : Int32)))]) [1, 2, 3, 4, 0] rfl ?_
    exact k_Soundings_freshen_153 C O hm
theorem k_Soundings_freshen_144 {G : jG} {X : jX} (C : jC G X cX5_freshen 7 RX5 4 142) {v1 : Int32} {v3 : Int32} {v4 : Int32} {h : Hp} {out : Hp} (O : (O_Soundings_freshen G X) out) (hm : lp (fun q => s_Soundings_freshen_144 q.1 q.2.1 q.2.2.1 q.2.2.2) (v1, v3, v4, h) = some out) : J G X 144 [(0, .ref (G.1 + 74)), (1, .int v1), (3, .int v3), (4, .int v4)] [] h :=
  lp_ok (P := P_Soundings_freshen_144 G X) (O := (O_Soundings_freshen G X)) (fun q r hm O => w_Soundings_freshen_144 C O hm) hm O
theorem w_Soundings_freshen_41 {G : jG} {X : jX} (C : jC G X cX5_freshen 7 RX5 4 142) {v1 : Int32} {v2 : Int32} {v3 : Int32} {v4 : Int32} {h : Hp} {out : ((Int32 × Int32 × Int32 × Int32 × Hp) ⊕ Hp)} (O : (O_Soundings_freshen_41 G X) out) (hm : s_Soundings_freshen_41 v1 v2 v3 v4 h = some out) : J G X 41 [(0, .ref (G.1 + 74)), (1, .int v1), (2, .int v2), (3, .int v3), (4, .int v4)] [] h := by
  unfold s_Soundings_freshen_41 at hm
  refine j_iload C 4 dX5_freshen_41 rfl ?_
  refine j_aload_n C 0 dX5_freshen_43 rfl rfl ?_
  refine j_gS C f_X5_43 n_74 q_74_0 dX5_freshen_44 ?_
  refine j_gI C f_X5_70 n_1 dX5_freshen_47 ?_
  refine j_if_icmpge C 137 dX5_freshen_50 (by decide) hm (fun hm => ?_) (fun hm => ?_)
  · refine j_aload_n C 0 dX5_freshen_137 rfl rfl ?_
    refine j_cV C l_X5_86 [] [] (fun _ => none) (fun u1 => u1) (fun u1 => []) n_74 hm (fun l u hu => c_Soundings_forgetPairs hu) rfl (Nat.le_of_ble_eq_true rfl) rfl (Nat.le_of_ble_eq_true rfl) (Nat.le_of_ble_eq_true rfl) (fun _ => rfl) dX5_freshen_138 (fun u1 hm => ?_)
    refine j_iconst C 0 dX5_freshen_141 (by decide) ?_
    refine j_istore C [(4, .int ((0 : Int32))), (0, .ref (G.1 + 74)), (1, .int v1), (2, .int v2), (3, .int v3)] dX5_freshen_142 (by decide) rfl ?_
    obtain ⟨o_0, hm_0, rfl⟩ := inr_inv hm
    refine j_sub (L' := [(0, .ref (G.1 + 74)), (1, .int v1), (3, .int v3), (4, .int ((0 : Int32)))]) [1, 2, 4, 0] rfl ?_
    exact k_Soundings_freshen_144 C O hm_0
  · refine j_aload_n C 0 dX5_freshen_53 rfl rfl ?_
    refine j_gS C f_X5_43 n_74 q_74_0 dX5_freshen_54 ?_
    refine j_gS C f_X5_73 n_1 q_1_11 dX5_freshen_57 ?_
    refine j_iload C 4 dX5_freshen_60 rfl ?_
    refine j_iald C n_13 hm dX5_freshen_62 (fun hm => ?_)
    refine j_istore C [(5, .int (hI h 13 (ix v4))), (0, .ref (G.1 + 74)), (1, .int v1), (2, .int v2), (3, .int v3), (4, .int v4)] dX5_freshen_63 (by decide) rfl ?_
    refine j_aload_n C 1 dX5_freshen_65 rfl rfl ?_
    refine j_gS C f_X5_43 n_74 q_74_0 dX5_freshen_66 ?_
    refine j_gS C f_X5_55 n_1 q_1_1 dX5_freshen_69 ?_
    refine j_iload_n C 3 dX5_freshen_72 rfl rfl ?_
    refine j_iconst C 0 dX5_freshen_73 (by decide) ?_
    refine j_iadd C dX5_freshen_74 ?_
    refine j_iald C n_3 hm dX5_freshen_75 (fun hm => ?_)
    refine j_iload C 0 dX5_freshen_76 rfl ?_
    refine j_aload_n C 1 dX5_freshen_78 rfl rfl ?_
    refine j_gS C f_X5_43 n_74 q_74_0 dX5_freshen_79 ?_
    refine j_gS C f_X5_55 n_1 q_1_1 dX5_freshen_82 ?_
    refine j_iload_n C 3 dX5_freshen_85 rfl rfl ?_
    refine j_iconst C 2 dX5_freshen_86 (by decide) ?_
    refine j_iadd C dX5_freshen_87 ?_
    refine j_iald C n_3 hm dX5_freshen_88 (fun hm => ?_)
    refine j_iload_n C 4 dX5_freshen_89 rfl rfl ?_
    refine j_cN C l_X5_76 [.int (hI h 13 (ix v4)), .int (hI h 3 (ix (v2 + ((2 : Int32))))), .int v3] [.int (hI h 3 (ix (v2 + ((0 : Int32)))))] (fun u2 => some (.int u2)) (fun _ => h) (fun u2 => [.int u2, .int (hI h 3 (ix (v2 + ((0 : Int32)))))]) hm (fun l u hu => c_Race_wave hu) rfl (Nat.le_of_ble_eq_true rfl) rfl (Nat.le_of_ble_eq_true rfl) (Nat.le_of_ble_eq_true rfl) (fun _ => rfl) dX5_freshen_90 (fun u2 hm => ?_)
    refine j_imul C dX5_freshen_93 ?_
    refine j_sipush C 1000 dX5_freshen_94 (by decide) ?_
    refine j_idiv C dX5_freshen_97 (by decide) ?_
    refine j_nmI hm (fun x3 hm => ?_)
    refine j_istore C [(6, .int x3), (5, .int (hI h 13 (ix v4))), (0, .ref (G.1 + 74)), (1, .int v1), (2, .int v2), (3, .int v3), (4, .int v4)] dX5_freshen_98 (by decide) rfl ?_
    refine j_aload_n C 2 dX5_freshen_100 rfl rfl ?_
    refine j_gS C f_X5_9 n_74 q_74_2 dX5_freshen_101 ?_
    refine j_iload C 6 dX5_freshen_104 rfl ?_
    refine j_aload_n C 2 dX5_freshen_106 rfl rfl ?_
    refine j_gS C f_X5_43 n_74 q_74_0 dX5_freshen_107 ?_
    refine j_gS C f_X5_80 n_1 q_1_12 dX5_freshen_110 ?_
    refine j_iload C 6 dX5_freshen_113 rfl ?_
    refine j_iald C n_14 hm dX5_freshen_115 (fun hm => ?_)
    refine j_aload_n C 2 dX5_freshen_116 rfl rfl ?_
    refine j_gS C f_X5_47 n_74 q_74_1 dX5_freshen_117 ?_
    refine j_iconst C 0 dX5_freshen_120 (by decide) ?_
    refine j_iload C 1 dX5_freshen_121 rfl ?_
    refine j_cV C l_X5_83 [.int ((0 : Int32)), .int (hI h 13 (ix v4))] [.int (hI h 14 (ix v4)), .int v4, .ref (G.1 + 75)] (fun u4 => some (.int u4)) (fun _ => h) (fun u4 => [.int u4, .int (hI h 14 (ix v4)), .int v4, .ref (G.1 + 75)]) n_50 hm (fun l u hu => c_Water_levelToday hu) rfl (Nat.le_of_ble_eq_true rfl) rfl (Nat.le_of_ble_eq_true rfl) (Nat.le_of_ble_eq_true rfl) (fun _ => rfl) dX5_freshen_123 (fun u4 hm => ?_)
    refine j_iload C 0 dX5_freshen_126 rfl ?_
    refine j_isub C dX5_freshen_128 ?_
    refine j_isub C dX5_freshen_129 ?_
    refine j_iast C n_75 hm dX5_freshen_130 (fun hm => ?_)
    refine j_iinc C 6 [(4, .int (v4 + (1 : Int32))), (6, .int x3), (5, .int (hI h 13 (ix v4))), (0, .ref (G.1 + 74)), (1, .int v1), (2, .int v2), (3, .int v3)] dX5_freshen_131 rfl (add_lit (by decide)) (by decide) rfl ?_
    refine j_goto C 41 dX5_freshen_134 (by decide) ?_
    obtain rfl := Option.some.inj hm
    refine j_sub (L' := [(0, .ref (G.1 + 74)), (1, .int v1), (2, .int v2), (3, .int v3), (4, .int (v4 + (1 : Int32)))]) [3, 4, 5, 6, 0] rfl ?_
    exact O
theorem k_Soundings_freshen_41 {G : jG} {X : jX} (C : jC G X cX5_freshen 7 RX5 4 142) {v1 : Int32} {v2 : Int32} {v3 : Int32} {v4 : Int32} {h : Hp} {out : Hp} (O : (O_Soundings_freshen G X) out) (hm : lp (fun q => s_Soundings_freshen_41 q.1 q.2.1 q.2.2.1 q.2.2.2.1 q.2.2.2.2) (v1, v2, v3, v4, h) = some out) : J G X 41 [(0, .ref (G.1 + 74)), (1, .int v1), (2, .int v2), (3, .int v3), (4, .int v4)] [] h :=
  lp_ok (P := P_Soundings_freshen_41 G X) (O := (O_Soundings_freshen G X)) (fun q r hm O => w_Soundings_freshen_41 C O hm) hm O
theorem w_Soundings_freshen {G : jG} {X : jX} (C : jC G X cX5_freshen 7 RX5 4 142) {v1 : Int32} {h : Hp} {out : Hp} (O : (O_Soundings_freshen G X) out) (hm : s_Soundings_freshen v1 h = some out) : J G X 0 [(0, .ref (G.1 + 74)), (1, .int v1)] [] h := by
  unfold s_Soundings_freshen at hm
  refine j_aload_n C 0 dX5_freshen_0 rfl rfl ?_
  refine j_gI C f_X5_21 n_74 dX5_freshen_1 ?_
  refine j_iload_n C 1 dX5_freshen_4 rfl rfl ?_
  refine j_if_icmpne C 9 dX5_freshen_5 (by decide) hm (fun hm => ?_) (fun hm => ?_)
  · obtain rfl := Option.some.inj hm
    exact j_vret C O dX5_freshen_8
  · refine j_iconst C 0 dX5_freshen_9 (by decide) ?_
    refine j_iload_n C 1 dX5_freshen_10 rfl rfl ?_
    refine j_cN C l_X5_51 [.int ((0 : Int32)), .int v1] [] (fun u1 => some (.int u1)) (fun _ => h) (fun u1 => [.int u1]) hm (fun l u hu => c_Race_moonPlace hu) rfl (Nat.le_of_ble_eq_true rfl) rfl (Nat.le_of_ble_eq_true rfl) (Nat.le_of_ble_eq_true rfl) (fun _ => rfl) dX5_freshen_11 (fun u1 hm => ?_)
    refine j_istore_n C [(2, .int u1), (0, .ref (G.1 + 74)), (1, .int v1)] dX5_freshen_14 rfl (by decide) rfl ?_
    refine j_iconst C 1 dX5_freshen_15 (by decide) ?_
    refine j_aload_n C 1 dX5_freshen_16 rfl rfl ?_
    refine j_gS C f_X5_43 n_74 q_74_0 dX5_freshen_17 ?_
    refine j_gS C f_X5_55 n_1 q_1_1 dX5_freshen_20 ?_
    refine j_iload_n C 0 dX5_freshen_23 rfl rfl ?_
    refine j_iconst C 1 dX5_freshen_24 (by decide) ?_
    refine j_iadd C dX5_freshen_25 ?_
    refine j_iald C n_3 hm dX5_freshen_26 (fun hm => ?_)
    refine j_mmax C wd_1203 wd_936 wd_126 wd_937 (Nat.le_of_ble_eq_true rfl) (Nat.le_of_ble_eq_true rfl) dX5_freshen_27 ?_
    refine j_nmI hm (fun x2 hm => ?_)
    refine j_istore_n C [(3, .int x2), (2, .int u1), (0, .ref (G.1 + 74)), (1, .int v1)] dX5_freshen_30 rfl (by decide) rfl ?_
    refine j_aload_n C 2 dX5_freshen_31 rfl rfl ?_
    refine j_gS C f_X5_47 n_74 q_74_1 dX5_freshen_32 ?_
    refine j_cV C l_X5_65 [] [] (fun _ => none) (fun u3 => u3) (fun u3 => []) n_50 hm (fun l u hu => c_Water_freshenTides hu) rfl (Nat.le_of_ble_eq_true rfl) rfl (Nat.le_of_ble_eq_true rfl) (Nat.le_of_ble_eq_true rfl) (fun _ => rfl) dX5_freshen_35 (fun u3 hm => ?_)
    refine j_iconst C 0 dX5_freshen_38 (by decide) ?_
    refine j_istore C [(4, .int ((0 : Int32))), (3, .int x2), (2, .int u1), (0, .ref (G.1 + 74)), (1, .int v1)] dX5_freshen_39 (by decide) rfl ?_
    refine j_sub (L' := [(0, .ref (G.1 + 74)), (1, .int v1), (2, .int u1), (3, .int x2), (4, .int ((0 : Int32)))]) [3, 4, 2, 1, 0] rfl ?_
    exact k_Soundings_freshen_41 C O hm
theorem c_Soundings_freshen {G : jG} {l : Launch} {v1 : Int32} {h : Hp} {out : Hp} (hm : s_Soundings_freshen v1 h = some out) : mt G l yX5_freshen cX5_freshen 7 (none) 4 142 [.ref (G.1 + 74), .int v1] h none out :=
  mt_of (by decide) (Nat.le_of_ble_eq_true rfl) _ rfl (fun X I C O => w_Soundings_freshen C O hm)
noncomputable def s_Race_agree_16 (h : Hp) : Option (Int32 × Hp) :=
  some ((-1 : Int32), h)
noncomputable def s_Race_agree (v1 : Int32) (v2 : Int32) (h : Hp) : Option (Int32 × Hp) :=
  (s_Race_isMoon v1 h).bind fun u1 => if u1 = 0 then
    s_Race_agree_16 h
  else
    (s_Race_isWithin v2 ((0 : Int32)) ((5 : Int32)) h).bind fun u2 => if u2 = 0 then
      s_Race_agree_16 h
    else
      (s_Soundings_freshen v1 h).bind fun u3 => if v2 = 0 then
        some (hI u3 74 6, u3)
      else if v2 = 1 then
        some (hI u3 74 7, u3)
      else if v2 = 2 then
        some (hI u3 74 8, u3)
      else if v2 = 3 then
        some (hI u3 74 9, u3)
      else if v2 = 4 then
        some (hI u3 74 10, u3)
      else 
        some (hI u3 74 11, u3)
def O_Race_agree (G : jG) (X : jX) (out : (Int32 × Hp)) : Prop := jO G X (some .int) (some (.int out.1)) out.2
theorem w_Race_agree_16 {G : jG} {X : jX} (C : jC G X cX11_agree 3 RX11 5 168) {h : Hp} {out : (Int32 × Hp)} (O : (O_Race_agree G X) out) (hm : s_Race_agree_16 h = some out) : J G X 16 [] [] h := by
  unfold s_Race_agree_16 at hm
  refine j_iconst C (-1 : Int32) dX11_agree_16 (by decide) ?_
  obtain rfl := Option.some.inj hm
  exact j_iret C O dX11_agree_17
theorem w_Race_agree {G : jG} {X : jX} (C : jC G X cX11_agree 3 RX11 5 168) {v1 : Int32} {v2 : Int32} {h : Hp} {out : (Int32 × Hp)} (O : (O_Race_agree G X) out) (hm : s_Race_agree v1 v2 h = some out) : J G X 0 [(0, .ref (G.1 + 0)), (1, .int v1), (2, .int v2)] [] h := by
  unfold s_Race_agree at hm
  refine j_iload_n C 1 dX11_agree_0 rfl rfl ?_
  refine j_cS C l_X11_125 [.int v1] [] (fun u1 => some (.int u1)) (fun _ => h) (fun u1 => [.int u1]) hm (fun l u hu => c_Race_isMoon hu) rfl (Nat.le_of_ble_eq_true rfl) rfl (Nat.le_of_ble_eq_true rfl) (Nat.le_of_ble_eq_true rfl) (fun _ => rfl) dX11_agree_1 (fun u1 hm => ?_)
  refine j_ifeq C 16 dX11_agree_4 (by decide) hm (fun hm => ?_) (fun hm => ?_)
  · refine j_sub (L' := []) [] rfl ?_
    exact w_Race_agree_16 C O hm
  · refine j_iload_n C 2 dX11_agree_7 rfl rfl ?_
    refine j_iconst C 0 dX11_agree_8 (by decide) ?_
    refine j_iconst C 5 dX11_agree_9 (by decide) ?_
    refine j_cS C l_X11_102 [.int v2, .int ((0 : Int32)), .int ((5 : Int32))] [] (fun u2 => some (.int u2)) (fun _ => h) (fun u2 => [.int u2]) hm (fun l u hu => c_Race_isWithin hu) rfl (Nat.le_of_ble_eq_true rfl) rfl (Nat.le_of_ble_eq_true rfl) (Nat.le_of_ble_eq_true rfl) (fun _ => rfl) dX11_agree_10 (fun u2 hm => ?_)
    refine j_ifne C 18 dX11_agree_13 (by decide) hm (fun hm => ?_) (fun hm => ?_)
    · refine j_sub (L' := []) [] rfl ?_
      exact w_Race_agree_16 C O hm
    · refine j_aload_n C 0 dX11_agree_18 rfl rfl ?_
      refine j_gS C f_X11_68 n_0 q_0_8 dX11_agree_19 ?_
      refine j_iload_n C 1 dX11_agree_22 rfl rfl ?_
      refine j_cV C l_X11_329 [.int v1] [] (fun _ => none) (fun u3 => u3) (fun u3 => []) n_74 hm (fun l u hu => c_Soundings_freshen hu) rfl (Nat.le_of_ble_eq_true rfl) rfl (Nat.le_of_ble_eq_true rfl) (Nat.le_of_ble_eq_true rfl) (fun _ => rfl) dX11_agree_23 (fun u3 hm => ?_)
      refine j_iload_n C 2 dX11_agree_26 rfl rfl ?_
      rcases if_inv hm with ⟨c4, hm⟩ | ⟨c4, hm⟩
      · refine j_swIn C 0 60 dX11_agree_27 c4 (by decide) (by decide) rfl (by decide) ?_
        refine j_aload_n C 0 dX11_agree_60 rfl rfl ?_
        refine j_gS C f_X11_68 n_0 q_0_8 dX11_agree_61 ?_
        refine j_gI C f_X11_331 n_74 dX11_agree_64 ?_
        obtain rfl := Option.some.inj hm
        exact j_iret C O dX11_agree_67
      rcases if_inv hm with ⟨c5, hm⟩ | ⟨c5, hm⟩
      · refine j_swIn C 1 68 dX11_agree_27 c5 (by decide) (by decide) rfl (by decide) ?_
        refine j_aload_n C 0 dX11_agree_68 rfl rfl ?_
        refine j_gS C f_X11_68 n_0 q_0_8 dX11_agree_69 ?_
        refine j_gI C f_X11_334 n_74 dX11_agree_72 ?_
        obtain rfl := Option.some.inj hm
        exact j_iret C O dX11_agree_75
      rcases if_inv hm with ⟨c6, hm⟩ | ⟨c6, hm⟩
      · refine j_swIn C 2 76 dX11_agree_27 c6 (by decide) (by decide) rfl (by decide) ?_
        refine j_aload_n C 0 dX11_agree_76 rfl rfl ?_
        refine j_gS C f_X11_68 n_0 q_0_8 dX11_agree_77 ?_
        refine j_gI C f_X11_337 n_74 dX11_agree_80 ?_
        obtain rfl := Option.some.inj hm
        exact j_iret C O dX11_agree_83
      rcases if_inv hm with ⟨c7, hm⟩ | ⟨c7, hm⟩
      · refine j_swIn C 3 84 dX11_agree_27 c7 (by decide) (by decide) rfl (by decide) ?_
        refine j_aload_n C 0 dX11_agree_84 rfl rfl ?_
        refine j_gS C f_X11_68 n_0 q_0_8 dX11_agree_85 ?_
        refine j_gI C f_X11_340 n_74 dX11_agree_88 ?_
        obtain rfl := Option.some.inj hm
        exact j_iret C O dX11_agree_91
      rcases if_inv hm with ⟨c8, hm⟩ | ⟨c8, hm⟩
      · refine j_swIn C 4 92 dX11_agree_27 c8 (by decide) (by decide) rfl (by decide) ?_
        refine j_aload_n C 0 dX11_agree_92 rfl rfl ?_
        refine j_gS C f_X11_68 n_0 q_0_8 dX11_agree_93 ?_
        refine j_gI C f_X11_343 n_74 dX11_agree_96 ?_
        obtain rfl := Option.some.inj hm
        exact j_iret C O dX11_agree_99
      refine j_tableOut C 100 dX11_agree_27 (by have e0 := sw_ne (n := 0) c4 (by decide); have e1 := sw_ne (n := 1) c5 (by decide); have e2 := sw_ne (n := 2) c6 (by decide); have e3 := sw_ne (n := 3) c7 (by decide); have e4 := sw_ne (n := 4) c8 (by decide); omega) (by decide) ?_
      refine j_aload_n C 0 dX11_agree_100 rfl rfl ?_
      refine j_gS C f_X11_68 n_0 q_0_8 dX11_agree_101 ?_
      refine j_gI C f_X11_346 n_74 dX11_agree_104 ?_
      obtain rfl := Option.some.inj hm
      exact j_iret C O dX11_agree_107
theorem c_Race_agree {G : jG} {l : Launch} {v1 : Int32} {v2 : Int32} {h : Hp} {out : (Int32 × Hp)} (hm : s_Race_agree v1 v2 h = some out) : mt G l yX11_agree cX11_agree 3 (some .int) 5 168 [.ref (G.1 + 0), .int v1, .int v2] h (some (.int out.1)) out.2 :=
  mt_of (by decide) (Nat.le_of_ble_eq_true rfl) _ rfl (fun X I C O => w_Race_agree C O hm)
noncomputable def s_Water_forgetFlows (h : Hp) : Option Hp :=
  lt (sI (sI (sI (sI h 50 10 ((0 : Int32))) 50 11 ((0 : Int32))) 50 12 ((-1 : Int32))) 50 13 ((-1 : Int32))) fun h1 => (s_Arr_fillL 56 ((-1 : Int64)) h1).bind fun u2 => some u2
def O_Water_forgetFlows (G : jG) (X : jX) (out : Hp) : Prop := jO G X (none) none out
theorem w_Water_forgetFlows {G : jG} {X : jX} (C : jC G X cX9_forgetFlows 1 RX9 2 94) {h : Hp} {out : Hp} (O : (O_Water_forgetFlows G X) out) (hm : s_Water_forgetFlows h = some out) : J G X 0 [(0, .ref (G.1 + 50))] [] h := by
  unfold s_Water_forgetFlows at hm
  refine j_aload_n C 0 dX9_forgetFlows_0 rfl rfl ?_
  refine j_iconst C 0 dX9_forgetFlows_1 (by decide) ?_
  refine j_pZ C f_X9_45 n_50 (by decide) dX9_forgetFlows_2 ?_
  refine j_aload_n C 0 dX9_forgetFlows_5 rfl rfl ?_
  refine j_iconst C 0 dX9_forgetFlows_6 (by decide) ?_
  refine j_pZ C f_X9_48 n_50 (by decide) dX9_forgetFlows_7 ?_
  refine j_aload_n C 0 dX9_forgetFlows_10 rfl rfl ?_
  refine j_iconst C (-1 : Int32) dX9_forgetFlows_11 (by decide) ?_
  refine j_pI C f_X9_51 n_50 dX9_forgetFlows_12 ?_
  refine j_aload_n C 0 dX9_forgetFlows_15 rfl rfl ?_
  refine j_iconst C (-1 : Int32) dX9_forgetFlows_16 (by decide) ?_
  refine j_pI C f_X9_55 n_50 dX9_forgetFlows_17 ?_
  refine j_aload_n C 0 dX9_forgetFlows_20 rfl rfl ?_
  refine j_nmH hm (fun h1 hm => ?_)
  refine j_gS C f_X9_25 n_50 q_50_4 dX9_forgetFlows_21 ?_
  refine j_ldc2 C wd_336 dX9_forgetFlows_24 ?_
  refine j_cS C l_X9_64 [.ref (G.1 + 56), .long ((-1 : Int64))] [] (fun _ => none) (fun u2 => u2) (fun u2 => []) hm (fun l u hu => c_Arr_fillL hu) rfl (Nat.le_of_ble_eq_true rfl) rfl (Nat.le_of_ble_eq_true rfl) (Nat.le_of_ble_eq_true rfl) (fun _ => rfl) dX9_forgetFlows_27 (fun u2 hm => ?_)
  obtain rfl := Option.some.inj hm
  exact j_vret C O dX9_forgetFlows_30
theorem c_Water_forgetFlows {G : jG} {l : Launch} {h : Hp} {out : Hp} (hm : s_Water_forgetFlows h = some out) : mt G l yX9_forgetFlows cX9_forgetFlows 1 (none) 2 94 [.ref (G.1 + 50)] h none out :=
  mt_of (by decide) (Nat.le_of_ble_eq_true rfl) _ rfl (fun X I C O => w_Water_forgetFlows C O hm)
noncomputable def s_Race_forgetFlows (h : Hp) : Option Hp :=
  (s_Water_forgetFlows h).bind fun u1 => lt (sI u1 58 12 ((0 : Int32))) fun h2 => lt (sI h2 69 8 ((0 : Int32))) fun h3 => lt (sI h3 74 5 ((-1 : Int32))) fun h4 => some (sI h4 78 4 ((0 : Int32)))
def O_Race_forgetFlows (G : jG) (X : jX) (out : Hp) : Prop := jO G X (none) none out
theorem w_Race_forgetFlows {G : jG} {X : jX} (C : jC G X cX11_forgetFlows 1 RX11 3 114) {h : Hp} {out : Hp} (O : (O_Race_forgetFlows G X) out) (hm : s_Race_forgetFlows h = some out) : J G X 0 [(0, .ref (G.1 + 0))] [] h := by
  unfold s_Race_forgetFlows at hm
  refine j_aload_n C 0 dX11_forgetFlows_0 rfl rfl ?_
  refine j_gS C f_X11_45 n_0 q_0_5 dX11_forgetFlows_1 ?_
  refine j_cV C l_X11_375 [] [] (fun _ => none) (fun u1 => u1) (fun u1 => []) n_50 hm (fun l u hu => c_Water_forgetFlows hu) rfl (Nat.le_of_ble_eq_true rfl) rfl (Nat.le_of_ble_eq_true rfl) (Nat.le_of_ble_eq_true rfl) (fun _ => rfl) dX11_forgetFlows_4 (fun u1 hm => ?_)
  refine j_aload_n C 0 dX11_forgetFlows_7 rfl rfl ?_
  refine j_gS C f_X11_54 n_0 q_0_6 dX11_forgetFlows_8 ?_
  refine j_iconst C 0 dX11_forgetFlows_11 (by decide) ?_
  refine j_pZ C f_X11_376 n_58 (by decide) dX11_forgetFlows_12 ?_
  refine j_aload_n C 0 dX11_forgetFlows_15 rfl rfl ?_
  refine j_nmH hm (fun h2 hm => ?_)
  refine j_gS C f_X11_61 n_0 q_0_7 dX11_forgetFlows_16 ?_
  refine j_iconst C 0 dX11_forgetFlows_19 (by decide) ?_
  refine j_pZ C f_X11_285 n_69 (by decide) dX11_forgetFlows_20 ?_
  refine j_aload_n C 0 dX11_forgetFlows_23 rfl rfl ?_
  refine j_nmH hm (fun h3 hm => ?_)
  refine j_gS C f_X11_68 n_0 q_0_8 dX11_forgetFlows_24 ?_
  refine j_iconst C (-1 : Int32) dX11_forgetFlows_27 (by decide) ?_
  refine j_pI C f_X11_326 n_74 dX11_forgetFlows_28 ?_
  refine j_aload_n C 0 dX11_forgetFlows_31 rfl rfl ?_
  refine j_nmH hm (fun h4 hm => ?_)
  refine j_gS C f_X11_77 n_0 q_0_9 dX11_forgetFlows_32 ?_
  refine j_iconst C 0 dX11_forgetFlows_35 (by decide) ?_
  refine j_pZ C f_X11_379 n_78 (by decide) dX11_forgetFlows_36 ?_
  obtain rfl := Option.some.inj hm
  exact j_vret C O dX11_forgetFlows_39
theorem c_Race_forgetFlows {G : jG} {l : Launch} {h : Hp} {out : Hp} (hm : s_Race_forgetFlows h = some out) : mt G l yX11_forgetFlows cX11_forgetFlows 1 (none) 3 114 [.ref (G.1 + 0)] h none out :=
  mt_of (by decide) (Nat.le_of_ble_eq_true rfl) _ rfl (fun X I C O => w_Race_forgetFlows C O hm)
noncomputable def s_Race_forgetLevels (h : Hp) : Option Hp :=
  (s_Race_forgetFlows (sI h 50 9 ((0 : Int32)))).bind fun u1 => some u1
def O_Race_forgetLevels (G : jG) (X : jX) (out : Hp) : Prop := jO G X (none) none out
theorem w_Race_forgetLevels {G : jG} {X : jX} (C : jC G X cX11_forgetLevels 1 RX11 4 134) {h : Hp} {out : Hp} (O : (O_Race_forgetLevels G X) out) (hm : s_Race_forgetLevels h = some out) : J G X 0 [(0, .ref (G.1 + 0))] [] h := by
  unfold s_Race_forgetLevels at hm
  refine j_aload_n C 0 dX11_forgetLevels_0 rfl rfl ?_
  refine j_gS C f_X11_45 n_0 q_0_5 dX11_forgetLevels_1 ?_
  refine j_iconst C 0 dX11_forgetLevels_4 (by decide) ?_
  refine j_pZ C f_X11_372 n_50 (by decide) dX11_forgetLevels_5 ?_
  refine j_aload_n C 0 dX11_forgetLevels_8 rfl rfl ?_
  refine j_cV C l_X11_151 [] [] (fun _ => none) (fun u1 => u1) (fun u1 => []) n_0 hm (fun l u hu => c_Race_forgetFlows hu) rfl (Nat.le_of_ble_eq_true rfl) rfl (Nat.le_of_ble_eq_true rfl) (Nat.le_of_ble_eq_true rfl) (fun _ => rfl) dX11_forgetLevels_9 (fun u1 hm => ?_)
  obtain rfl := Option.some.inj hm
  exact j_vret C O dX11_forgetLevels_12
theorem c_Race_forgetLevels {G : jG} {l : Launch} {h : Hp} {out : Hp} (hm : s_Race_forgetLevels h = some out) : mt G l yX11_forgetLevels cX11_forgetLevels 1 (none) 4 134 [.ref (G.1 + 0)] h none out :=
  mt_of (by decide) (Nat.le_of_ble_eq_true rfl) _ rfl (fun X I C O => w_Race_forgetLevels C O hm)
noncomputable def s_Race_grant (v1 : Int32) (h : Hp) : Option (Int32 × Hp) :=
  some (v1, sI h 0 12 ((0 : Int32)))
def O_Race_grant (G : jG) (X : jX) (out : (Int32 × Hp)) : Prop := jO G X (some .int) (some (.int out.1)) out.2
theorem w_Race_grant {G : jG} {X : jX} (C : jC G X cX11_grant 2 RX11 1 70) {v1 : Int32} {h : Hp} {out : (Int32 × Hp)} (O : (O_Race_grant G X) out) (hm : s_Race_grant v1 h = some out) : J G X 0 [(0, .ref (G.1 + 0)), (1, .int v1)] [] h := by
  unfold s_Race_grant at hm
  refine j_aload_n C 0 dX11_grant_0 rfl rfl ?_
  refine j_iconst C 0 dX11_grant_1 (by decide) ?_
  refine j_pI C f_X11_92 n_0 dX11_grant_2 ?_
  refine j_iload_n C 1 dX11_grant_5 rfl rfl ?_
  obtain rfl := Option.some.inj hm
  exact j_iret C O dX11_grant_6
theorem c_Race_grant {G : jG} {l : Launch} {v1 : Int32} {h : Hp} {out : (Int32 × Hp)} (hm : s_Race_grant v1 h = some out) : mt G l yX11_grant cX11_grant 2 (some .int) 1 70 [.ref (G.1 + 0), .int v1] h (some (.int out.1)) out.2 :=
  mt_of (by decide) (Nat.le_of_ble_eq_true rfl) _ rfl (fun X I C O => w_Race_grant C O hm)
