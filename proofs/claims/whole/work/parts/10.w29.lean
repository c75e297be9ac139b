noncomputable def s_Race_sea_35 (h : Hp) : Option (Int32 × Hp) :=
  (s_Race_refuse ((-1 : Int32)) h).bind fun u1 => some (u1.1, u1.2)
noncomputable def s_Race_sea (v1 : Int32) (v2 : Int32) (v3 : Int32) (h : Hp) : Option (Int32 × Hp) :=
  (s_Race_isWithin v1 ((0 : Int32)) ((1 : Int32)) h).bind fun u1 => if u1 = 0 then
    s_Race_sea_35 h
  else
    (s_Race_isWithin v2 ((0 : Int32)) ((2 : Int32)) h).bind fun u2 => if u2 = 0 then
      s_Race_sea_35 h
    else
      ib v2 3 <| ib v2 3 <| (s_Race_isWithin v3 ([-500, 0, -5].getD (ix v2) 0) ([500, 3, 5].getD (ix v2) 0) h).bind fun u3 => if u3 = 0 then
        s_Race_sea_35 h
      else
        ib ((v1 * ((3 : Int32))) + v2) 6 <| ib ((v1 * ((3 : Int32))) + v2) 6 <| (s_Race_forgetLevels (sI h 2 (ix ((v1 * ((3 : Int32))) + v2)) v3)).bind fun u4 => (s_Race_grant (hI h 2 (ix ((v1 * ((3 : Int32))) + v2))) u4).bind fun u5 => some (u5.1, u5.2)
def O_Race_sea (G : jG) (X : jX) (out : (Int32 × Hp)) : Prop := jO G X (some .int) (some (.int out.1)) out.2
theorem w_Race_sea_35 {G : jG} {X : jX} (C : jC G X cX11_sea 6 RX11 5 154) {h : Hp} {out : (Int32 × Hp)} (O : (O_Race_sea G X) out) (hm : s_Race_sea_35 h = some out) : J G X 35 [(0, .ref (G.1 + 0))] [] h := by
  unfold s_Race_sea_35 at hm
  refine j_aload_n C 0 dX11_sea_35 rfl rfl ?_
  refine j_iconst C (-1 : Int32) dX11_sea_36 (by decide) ?_
  refine j_cV C l_X11_112 [.int ((-1 : Int32))] [] (fun u1 => some (.int u1.1)) (fun u1 => u1.2) (fun u1 => [.int u1.1]) n_0 hm (fun l u hu => c_Race_refuse hu) rfl (Nat.le_of_ble_eq_true rfl) rfl (Nat.le_of_ble_eq_true rfl) (Nat.le_of_ble_eq_true rfl) (fun _ => rfl) dX11_sea_37 (fun u1 hm => ?_)
  obtain rfl := Option.some.inj hm
  exact j_iret C O dX11_sea_40
theorem w_Race_sea {G : jG} {X : jX} (C : jC G X cX11_sea 6 RX11 5 154) {v1 : Int32} {v2 : Int32} {v3 : Int32} {h : Hp} {out : (Int32 × Hp)} (O : (O_Race_sea G X) out) (hm : s_Race_sea v1 v2 v3 h = some out) : J G X 0 [(0, .ref (G.1 + 0)), (1, .int v1), (2, .int v2), (3, .int v3)] [] h := by
  unfold s_Race_sea at hm
  refine j_iload_n C 1 dX11_sea_0 rfl rfl ?_
  refine j_iconst C 0 dX11_sea_1 (by decide) ?_
  refine j_iconst C 1 dX11_sea_2 (by decide) ?_
  refine j_cS C l_X11_102 [.int v1, .int ((0 : Int32)), .int ((1 : Int32))] [] (fun u1 => some (.int u1)) (fun _ => h) (fun u1 => [.int u1]) hm (fun l u hu => c_Race_isWithin hu) rfl (Nat.le_of_ble_eq_true rfl) rfl (Nat.le_of_ble_eq_true rfl) (Nat.le_of_ble_eq_true rfl) (fun _ => rfl) dX11_sea_3 (fun u1 hm => ?_)
  refine j_ifeq C 35 dX11_sea_6 (by decide) hm (fun hm => ?_) (fun hm => ?_)
  · refine j_sub (L' := [(0, .ref (G.1 + 0))]) [0] rfl ?_
    exact w_Race_sea_35 C O hm
  · refine j_iload_n C 2 dX11_sea_9 rfl rfl ?_
    refine j_iconst C 0 dX11_sea_10 (by decide) ?_
    refine j_iconst C 2 dX11_sea_11 (by decide) ?_
    refine j_cS C l_X11_102 [.int v2, .int ((0 : Int32)), .int ((2 : Int32))] [] (fun u2 => some (.int u2)) (fun _ => h) (fun u2 => [.int u2]) hm (fun l u hu => c_Race_isWithin hu) rfl (Nat.le_of_ble_eq_true rfl) rfl (Nat.le_of_ble_eq_true rfl) (Nat.le_of_ble_eq_true rfl) (fun _ => rfl) dX11_sea_12 (fun u2 hm => ?_)
    refine j_ifeq C 35 dX11_sea_15 (by decide) hm (fun hm => ?_) (fun hm => ?_)
    · refine j_sub (L' := [(0, .ref (G.1 + 0))]) [0] rfl ?_
      exact w_Race_sea_35 C O hm
    · refine j_iload_n C 3 dX11_sea_18 rfl rfl ?_
      refine j_gs C (i := 3) rfl wd_620 dX11_sea_19 ?_
      refine j_iload_n C 2 dX11_sea_22 rfl rfl ?_
      refine j_sald C (a := 3) rfl rfl hm dX11_sea_23 (fun hm => ?_)
      refine j_gs C (i := 4) rfl wd_622 dX11_sea_24 ?_
      refine j_iload_n C 2 dX11_sea_27 rfl rfl ?_
      refine j_sald C (a := 4) rfl rfl hm dX11_sea_28 (fun hm => ?_)
      refine j_cS C l_X11_102 [.int v3, .int ([-500, 0, -5].getD (ix v2) 0), .int ([500, 3, 5].getD (ix v2) 0)] [] (fun u3 => some (.int u3)) (fun _ => h) (fun u3 => [.int u3]) hm (fun l u hu => c_Race_isWithin hu) rfl (Nat.le_of_ble_eq_true rfl) rfl (Nat.le_of_ble_eq_true rfl) (Nat.le_of_ble_eq_true rfl) (fun _ => rfl) dX11_sea_29 (fun u3 hm => ?_)
      refine j_ifne C 41 dX11_sea_32 (by decide) hm (fun hm => ?_) (fun hm => ?_)
      · refine j_sub (L' := [(0, .ref (G.1 + 0))]) [0] rfl ?_
        exact w_Race_sea_35 C O hm
      · refine j_iload_n C 1 dX11_sea_41 rfl rfl ?_
        refine j_iconst C 3 dX11_sea_42 (by decide) ?_
        refine j_imul C dX11_sea_43 ?_
        refine j_iload_n C 2 dX11_sea_44 rfl rfl ?_
        refine j_iadd C dX11_sea_45 ?_
        refine j_istore C [(4, .int ((v1 * ((3 : Int32))) + v2)), (0, .ref (G.1 + 0)), (1, .int v1), (2, .int v2), (3, .int v3)] dX11_sea_46 (by decide) rfl ?_
        refine j_aload_n C 1 dX11_sea_48 rfl rfl ?_
        refine j_gS C f_X11_10 n_0 q_0_0 dX11_sea_49 ?_
        refine j_gS C f_X11_116 n_1 q_1_0 dX11_sea_52 ?_
        refine j_iload C 0 dX11_sea_55 rfl ?_
        refine j_iald C n_2 hm dX11_sea_57 (fun hm => ?_)
        refine j_istore C [(5, .int (hI h 2 (ix ((v1 * ((3 : Int32))) + v2)))), (4, .int ((v1 * ((3 : Int32))) + v2)), (0, .ref (G.1 + 0)), (1, .int v1), (2, .int v2), (3, .int v3)] dX11_sea_58 (by decide) rfl ?_
        refine j_aload_n C 2 dX11_sea_60 rfl rfl ?_
        refine j_gS C f_X11_10 n_0 q_0_0 dX11_sea_61 ?_
        refine j_gS C f_X11_116 n_1 q_1_0 dX11_sea_64 ?_
        refine j_iload C 1 dX11_sea_67 rfl ?_
        refine j_iload_n C 5 dX11_sea_69 rfl rfl ?_
        refine j_iast C n_2 hm dX11_sea_70 (fun hm => ?_)
        refine j_aload_n C 2 dX11_sea_71 rfl rfl ?_
        refine j_cV C l_X11_119 [] [] (fun _ => none) (fun u4 => u4) (fun u4 => []) n_0 hm (fun l u hu => c_Race_forgetLevels hu) rfl (Nat.le_of_ble_eq_true rfl) rfl (Nat.le_of_ble_eq_true rfl) (Nat.le_of_ble_eq_true rfl) (fun _ => rfl) dX11_sea_72 (fun u4 hm => ?_)
        refine j_aload_n C 2 dX11_sea_75 rfl rfl ?_
        refine j_iload C 0 dX11_sea_76 rfl ?_
        refine j_cV C l_X11_122 [.int (hI h 2 (ix ((v1 * ((3 : Int32))) + v2)))] [] (fun u5 => some (.int u5.1)) (fun u5 => u5.2) (fun u5 => [.int u5.1]) n_0 hm (fun l u hu => c_Race_grant hu) rfl (Nat.le_of_ble_eq_true rfl) rfl (Nat.le_of_ble_eq_true rfl) (Nat.le_of_ble_eq_true rfl) (fun _ => rfl) dX11_sea_78 (fun u5 hm => ?_)
        obtain rfl := Option.some.inj hm
        exact j_iret C O dX11_sea_81
theorem c_Race_sea {G : jG} {l : Launch} {v1 : Int32} {v2 : Int32} {v3 : Int32} {h : Hp} {out : (Int32 × Hp)} (hm : s_Race_sea v1 v2 v3 h = some out) : mt G l yX11_sea cX11_sea 6 (some .int) 5 154 [.ref (G.1 + 0), .int v1, .int v2, .int v3] h (some (.int out.1)) out.2 :=
  mt_of (by decide) (Nat.le_of_ble_eq_true rfl) _ rfl (fun X I C O => w_Race_sea C O hm)
noncomputable def s_Race_ship_28 (h : Hp) : Option (Int32 × Hp) :=
  (s_Race_refuse ((-1 : Int32)) h).bind fun u1 => some (u1.1, u1.2)
noncomputable def s_Race_ship (v1 : Int32) (v2 : Int32) (v3 : Int32) (h : Hp) : Option (Int32 × Hp) :=
  (s_Race_isMinute v1 h).bind fun u1 => if u1 = 0 then
    s_Race_ship_28 h
  else
    (s_Race_isWithin v2 ((1 : Int32)) ((120 : Int32)) h).bind fun u2 => if u2 = 0 then
      s_Race_ship_28 h
    else
      (s_Race_isWithin v3 ((0 : Int32)) ((2000 : Int32)) h).bind fun u3 => if u3 = 0 then
        s_Race_ship_28 h
      else
        if (hI h 1 17) < ((6 : Int32)) then
          ib (hI h 1 17) 6 <| lt (sI h 10 (ix (hI h 1 17)) v1) fun h4 => ib (hI h4 1 17) 6 <| lt (sI h4 11 (ix (hI h4 1 17)) v2) fun h5 => ib (hI h5 1 17) 6 <| lt (sI h5 12 (ix (hI h5 1 17)) v3) fun h6 => lt (sI h6 1 17 ((hI h6 1 17) + ((1 : Int32)))) fun h7 => lt (sI h7 69 8 ((0 : Int32))) fun h8 => (s_Race_grant ((hI h8 1 17) - ((1 : Int32))) h8).bind fun u9 => some (u9.1, u9.2)
        else
          (s_Race_refuse ((-5 : Int32)) h).bind fun u10 => some (u10.1, u10.2)
def O_Race_ship (G : jG) (X : jX) (out : (Int32 × Hp)) : Prop := jO G X (some .int) (some (.int out.1)) out.2
theorem w_Race_ship_28 {G : jG} {X : jX} (C : jC G X cX11_ship 4 RX11 3 112) {h : Hp} {out : (Int32 × Hp)} (O : (O_Race_ship G X) out) (hm : s_Race_ship_28 h = some out) : J G X 28 [(0, .ref (G.1 + 0))] [] h := by
  unfold s_Race_ship_28 at hm
  refine j_aload_n C 0 dX11_ship_28 rfl rfl ?_
  refine j_iconst C (-1 : Int32) dX11_ship_29 (by decide) ?_
  refine j_cV C l_X11_112 [.int ((-1 : Int32))] [] (fun u1 => some (.int u1.1)) (fun u1 => u1.2) (fun u1 => [.int u1.1]) n_0 hm (fun l u hu => c_Race_refuse hu) rfl (Nat.le_of_ble_eq_true rfl) rfl (Nat.le_of_ble_eq_true rfl) (Nat.le_of_ble_eq_true rfl) (fun _ => rfl) dX11_ship_30 (fun u1 hm => ?_)
  obtain rfl := Option.some.inj hm
  exact j_iret C O dX11_ship_33
theorem w_Race_ship {G : jG} {X : jX} (C : jC G X cX11_ship 4 RX11 3 112) {v1 : Int32} {v2 : Int32} {v3 : Int32} {h : Hp} {out : (Int32 × Hp)} (O : (O_Race_ship G X) out) (hm : s_Race_ship v1 v2 v3 h = some out) : J G X 0 [(0, .ref (G.1 + 0)), (1, .int v1), (2, .int v2), (3, .int v3)] [] h := by
  unfold s_Race_ship at hm
  refine j_iload_n C 1 dX11_ship_0 rfl rfl ?_
  refine j_cS C l_X11_184 [.int v1] [] (fun u1 => some (.int u1)) (fun _ => h) (fun u1 => [.int u1]) hm (fun l u hu => c_Race_isMinute hu) rfl (Nat.le_of_ble_eq_true rfl) rfl (Nat.le_of_ble_eq_true rfl) (Nat.le_of_ble_eq_true rfl) (fun _ => rfl) dX11_ship_1 (fun u1 hm => ?_)
  refine j_ifeq C 28 dX11_ship_4 (by decide) hm (fun hm => ?_) (fun hm => ?_)
  · refine j_sub (L' := [(0, .ref (G.1 + 0))]) [0] rfl ?_
    exact w_Race_ship_28 C O hm
  · refine j_iload_n C 2 dX11_ship_7 rfl rfl ?_
    refine j_iconst C 1 dX11_ship_8 (by decide) ?_
    refine j_bipush C 120 dX11_ship_9 (by decide) ?_
    refine j_cS C l_X11_102 [.int v2, .int ((1 : Int32)), .int ((120 : Int32))] [] (fun u2 => some (.int u2)) (fun _ => h) (fun u2 => [.int u2]) hm (fun l u hu => c_Race_isWithin hu) rfl (Nat.le_of_ble_eq_true rfl) rfl (Nat.le_of_ble_eq_true rfl) (Nat.le_of_ble_eq_true rfl) (fun _ => rfl) dX11_ship_11 (fun u2 hm => ?_)
    refine j_ifeq C 28 dX11_ship_14 (by decide) hm (fun hm => ?_) (fun hm => ?_)
    · refine j_sub (L' := [(0, .ref (G.1 + 0))]) [0] rfl ?_
      exact w_Race_ship_28 C O hm
    · refine j_iload_n C 3 dX11_ship_17 rfl rfl ?_
      refine j_iconst C 0 dX11_ship_18 (by decide) ?_
      refine j_sipush C 2000 dX11_ship_19 (by decide) ?_
      refine j_cS C l_X11_102 [.int v3, .int ((0 : Int32)), .int ((2000 : Int32))] [] (fun u3 => some (.int u3)) (fun _ => h) (fun u3 => [.int u3]) hm (fun l u hu => c_Race_isWithin hu) rfl (Nat.le_of_ble_eq_true rfl) rfl (Nat.le_of_ble_eq_true rfl) (Nat.le_of_ble_eq_true rfl) (fun _ => rfl) dX11_ship_22 (fun u3 hm => ?_)
      refine j_ifne C 34 dX11_ship_25 (by decide) hm (fun hm => ?_) (fun hm => ?_)
      · refine j_sub (L' := [(0, .ref (G.1 + 0))]) [0] rfl ?_
        exact w_Race_ship_28 C O hm
      · refine j_aload_n C 0 dX11_ship_34 rfl rfl ?_
        refine j_gS C f_X11_10 n_0 q_0_0 dX11_ship_35 ?_
        refine j_gI C f_X11_273 n_1 dX11_ship_38 ?_
        refine j_bipush C 6 dX11_ship_41 (by decide) ?_
        refine j_if_icmplt C 53 dX11_ship_43 (by decide) hm (fun hm => ?_) (fun hm => ?_)
        · refine j_aload_n C 0 dX11_ship_53 rfl rfl ?_
          refine j_gS C f_X11_10 n_0 q_0_0 dX11_ship_54 ?_
          refine j_gS C f_X11_276 n_1 q_1_8 dX11_ship_57 ?_
          refine j_aload_n C 0 dX11_ship_60 rfl rfl ?_
          refine j_gS C f_X11_10 n_0 q_0_0 dX11_ship_61 ?_
          refine j_gI C f_X11_273 n_1 dX11_ship_64 ?_
          refine j_iload_n C 1 dX11_ship_67 rfl rfl ?_
          refine j_iast C n_10 hm dX11_ship_68 (fun hm => ?_)
          refine j_aload_n C 0 dX11_ship_69 rfl rfl ?_
          refine j_nmH hm (fun h4 hm => ?_)
          refine j_gS C f_X11_10 n_0 q_0_0 dX11_ship_70 ?_
          refine j_gS C f_X11_279 n_1 q_1_9 dX11_ship_73 ?_
          refine j_aload_n C 0 dX11_ship_76 rfl rfl ?_
          refine j_gS C f_X11_10 n_0 q_0_0 dX11_ship_77 ?_
          refine j_gI C f_X11_273 n_1 dX11_ship_80 ?_
          refine j_iload_n C 2 dX11_ship_83 rfl rfl ?_
          refine j_iast C n_11 hm dX11_ship_84 (fun hm => ?_)
          refine j_aload_n C 0 dX11_ship_85 rfl rfl ?_
          refine j_nmH hm (fun h5 hm => ?_)
          refine j_gS C f_X11_10 n_0 q_0_0 dX11_ship_86 ?_
          refine j_gS C f_X11_282 n_1 q_1_10 dX11_ship_89 ?_
          refine j_aload_n C 0 dX11_ship_92 rfl rfl ?_
          refine j_gS C f_X11_10 n_0 q_0_0 dX11_ship_93 ?_
          refine j_gI C f_X11_273 n_1 dX11_ship_96 ?_
          refine j_iload_n C 3 dX11_ship_99 rfl rfl ?_
          refine j_iast C n_12 hm dX11_ship_100 (fun hm => ?_)
          refine j_aload_n C 0 dX11_ship_101 rfl rfl ?_
          refine j_nmH hm (fun h6 hm => ?_)
          refine j_gS C f_X11_10 n_0 q_0_0 dX11_ship_102 ?_
          refine j_dup C dX11_ship_105 rfl ?_
          refine j_gI C f_X11_273 n_1 dX11_ship_106 ?_
          refine j_iconst C 1 dX11_ship_109 (by decide) ?_
          refine j_iadd C dX11_ship_110 ?_
          refine j_pI C f_X11_273 n_1 dX11_ship_111 ?_
          refine j_aload_n C 0 dX11_ship_114 rfl rfl ?_
          refine j_nmH hm (fun h7 hm => ?_)
          refine j_gS C f_X11_61 n_0 q_0_7 dX11_ship_115 ?_
          refine j_iconst C 0 dX11_ship_118 (by decide) ?_
          refine j_pZ C f_X11_285 n_69 (by decide) dX11_ship_119 ?_
          refine j_aload_n C 0 dX11_ship_122 rfl rfl ?_
          refine j_aload_n C 0 dX11_ship_123 rfl rfl ?_
          refine j_nmH hm (fun h8 hm => ?_)
          refine j_gS C f_X11_10 n_0 q_0_0 dX11_ship_124 ?_
          refine j_gI C f_X11_273 n_1 dX11_ship_127 ?_
          refine j_iconst C 1 dX11_ship_130 (by decide) ?_
          refine j_isub C dX11_ship_131 ?_
          refine j_cV C l_X11_122 [.int ((hI h8 1 17) - ((1 : Int32)))] [] (fun u9 => some (.int u9.1)) (fun u9 => u9.2) (fun u9 => [.int u9.1]) n_0 hm (fun l u hu => c_Race_grant hu) rfl (Nat.le_of_ble_eq_true rfl) rfl (Nat.le_of_ble_eq_true rfl) (Nat.le_of_ble_eq_true rfl) (fun _ => rfl) dX11_ship_132 (fun u9 hm => ?_)
          obtain rfl := Option.some.inj hm
          exact j_iret C O dX11_ship_135
        · refine j_aload_n C 0 dX11_ship_46 rfl rfl ?_
          refine j_bipush C (-5 : Int32) dX11_ship_47 (by decide) ?_
          refine j_cV C l_X11_112 [.int ((-5 : Int32))] [] (fun u10 => some (.int u10.1)) (fun u10 => u10.2) (fun u10 => [.int u10.1]) n_0 hm (fun l u hu => c_Race_refuse hu) rfl (Nat.le_of_ble_eq_true rfl) rfl (Nat.le_of_ble_eq_true rfl) (Nat.le_of_ble_eq_true rfl) (fun _ => rfl) dX11_ship_49 (fun u10 hm => ?_)
          obtain rfl := Option.some.inj hm
          exact j_iret C O dX11_ship_52
theorem c_Race_ship {G : jG} {l : Launch} {v1 : Int32} {v2 : Int32} {v3 : Int32} {h : Hp} {out : (Int32 × Hp)} (hm : s_Race_ship v1 v2 v3 h = some out) : mt G l yX11_ship cX11_ship 4 (some .int) 3 112 [.ref (G.1 + 0), .int v1, .int v2, .int v3] h (some (.int out.1)) out.2 :=
  mt_of (by decide) (Nat.le_of_ble_eq_true rfl) _ rfl (fun X I C O => w_Race_ship C O hm)
noncomputable def s_Water_sinceGreatest_36 (v1 : Int32) (v2 : Int32) (v3 : Int32) (h : Hp) : Option ((Int32 × Int32 × Int32) ⊕ Int32) :=
  some (.inl (v1, v2, (v3 + (-1 : Int32))))
noncomputable def s_Water_sinceGreatest_42 (v1 : Int32) (v2 : Int32) (h : Hp) : Option Int32 :=
  some (v1 - v2)
noncomputable def s_Water_sinceGreatest_6 (v1 : Int32) (v2 : Int32) (v3 : Int32) (h : Hp) : Option ((Int32 × Int32 × Int32) ⊕ Int32) :=
  if v3 < 0 then
    inr (s_Water_sinceGreatest_42 v1 v2 h)
  else
    if v3 < (v1 - ((720 : Int32))) then
      inr (s_Water_sinceGreatest_42 v1 v2 h)
    else
      ib v3 2880 <| ib v2 2880 <| if (hI h 54 (ix v3)) ≤ (hI h 54 (ix v2)) then
        s_Water_sinceGreatest_36 v1 v2 v3 h
      else
        s_Water_sinceGreatest_36 v1 v3 v3 h
noncomputable def s_Water_sinceGreatest (v1 : Int32) (h : Hp) : Option Int32 :=
  lp (fun q => s_Water_sinceGreatest_6 q.1 q.2.1 q.2.2 h) (v1, v1, (v1 - ((1 : Int32))))
def O_Water_sinceGreatest (G : jG) (X : jX) (h : Hp) (out : Int32) : Prop := jO G X (some .int) (some (.int out)) h
def P_Water_sinceGreatest_6 (G : jG) (X : jX) (h : Hp) (q : Int32 × Int32 × Int32) : Prop := J G X 6 [(0, .ref (G.1 + 50)), (1, .int q.1), (2, .int q.2.1), (3, .int q.2.2)] [] h
def O_Water_sinceGreatest_6 (G : jG) (X : jX) (h : Hp) (t : ((Int32 × Int32 × Int32) ⊕ Int32)) : Prop := Sum.elim (P_Water_sinceGreatest_6 G X h) (O_Water_sinceGreatest G X h) t
theorem w_Water_sinceGreatest_36 {G : jG} {X : jX} (C : jC G X cX9_sinceGreatest 4 RX9 1 70) {v1 : Int32} {v2 : Int32} {v3 : Int32} {h : Hp} {out : ((Int32 × Int32 × Int32) ⊕ Int32)} (O : (O_Water_sinceGreatest_6 G X h) out) (hm : s_Water_sinceGreatest_36 v1 v2 v3 h = some out) : J G X 36 [(0, .ref (G.1 + 50)), (1, .int v1), (2, .int v2), (3, .int v3)] [] h := by
  unfold s_Water_sinceGreatest_36 at hm
  refine j_iinc C 3 [(3, .int (v3 + (-1 : Int32))), (0, .ref (G.1 + 50)), (1, .int v1), (2, .int v2)] dX9_sinceGreatest_36 rfl (add_lit (by decide)) (by decide) rfl ?_
  refine j_goto C 6 dX9_sinceGreatest_39 (by decide) ?_
  obtain rfl := Option.some.inj hm
  refine j_sub (L' := [(0, .ref (G.1 + 50)), (1, .int v1), (2, .int v2), (3, .int (v3 + (-1 : Int32)))]) [1, 2, 3, 0] rfl ?_
  exact O
theorem w_Water_sinceGreatest_42 {G : jG} {X : jX} (C : jC G X cX9_sinceGreatest 4 RX9 1 70) {v1 : Int32} {v2 : Int32} {h : Hp} {out : Int32} (O : (O_Water_sinceGreatest G X h) out) (hm : s_Water_sinceGreatest_42 v1 v2 h = some out) : J G X 42 [(1, .int v1), (2, .int v2)] [] h := by
  unfold s_Water_sinceGreatest_42 at hm
  refine j_iload_n C 0 dX9_sinceGreatest_42 rfl rfl ?_
  refine j_iload_n C 1 dX9_sinceGreatest_43 rfl rfl ?_
  refine j_isub C dX9_sinceGreatest_44 ?_
  obtain rfl := Option.some.inj hm
  exact j_iret C O dX9_sinceGreatest_45
theorem w_Water_sinceGreatest_6 {G : jG} {X : jX} (C : jC G X cX9_sinceGreatest 4 RX9 1 70) {v1 : Int32} {v2 : Int32} {v3 : Int32} {h : Hp} {out : ((Int32 × Int32 × Int32) ⊕ Int32)} (O : (O_Water_sinceGreatest_6 G X h) out) (hm : s_Water_sinceGreatest_6 v1 v2 v3 h = some out) : J G X 6 [(0, .ref (G.1 + 50)), (1, .int v1), (2, .int v2), (3, .int v3)] [] h := by
  unfold s_Water_sinceGreatest_6 at hm
  refine j_iload_n C 3 dX9_sinceGreatest_6 rfl rfl ?_
  refine j_iflt C 42 dX9_sinceGreatest_7 (by decide) hm (fun hm => ?_) (fun hm => ?_)
  · obtain ⟨o_0, hm_0, rfl⟩ := inr_inv hm
    refine j_sub (L' := [(1, .int v1), (2, .int v2)]) [1, 2] rfl ?_
    exact w_Water_sinceGreatest_42 C O hm_0
  · refine j_iload_n C 3 dX9_sinceGreatest_10 rfl rfl ?_
    refine j_iload_n C 1 dX9_sinceGreatest_11 rfl rfl ?_
    refine j_sipush C 720 dX9_sinceGreatest_12 (by decide) ?_
    refine j_isub C dX9_sinceGreatest_15 ?_
    refine j_if_icmplt C 42 dX9_sinceGreatest_16 (by decide) hm (fun hm => ?_) (fun hm => ?_)
    · obtain ⟨o_0, hm_0, rfl⟩ := inr_inv hm
      refine j_sub (L' := [(1, .int v1), (2, .int v2)]) [1, 2] rfl ?_
      exact w_Water_sinceGreatest_42 C O hm_0
    · refine j_aload_n C 0 dX9_sinceGreatest_19 rfl rfl ?_
      refine j_gS C f_X9_18 n_50 q_50_2 dX9_sinceGreatest_20 ?_
      refine j_iload_n C 3 dX9_sinceGreatest_23 rfl rfl ?_
      refine j_iald C n_54 hm dX9_sinceGreatest_24 (fun hm => ?_)
      refine j_aload_n C 0 dX9_sinceGreatest_25 rfl rfl ?_
      refine j_gS C f_X9_18 n_50 q_50_2 dX9_sinceGreatest_26 ?_
      refine j_iload_n C 2 dX9_sinceGreatest_29 rfl rfl ?_
      refine j_iald C n_54 hm dX9_sinceGreatest_30 (fun hm => ?_)
      refine j_if_icmple C 36 dX9_sinceGreatest_31 (by decide) hm (fun hm => ?_) (fun hm => ?_)
      · refine j_sub (L' := [(0, .ref (G.1 + 50)), (1, .int v1), (2, .int v2), (3, .int v3)]) [0, 1, 2, 3] rfl ?_
        exact w_Water_sinceGreatest_36 C O hm
      · refine j_iload_n C 3 dX9_sinceGreatest_34 rfl rfl ?_
        refine j_istore_n C [(2, .int v3), (0, .ref (G.1 + 50)), (1, .int v1), (3, .int v3)] dX9_sinceGreatest_35 rfl (by decide) rfl ?_
        refine j_sub (L' := [(0, .ref (G.1 + 50)), (1, .int v1), (2, .int v3), (3, .int v3)]) [1, 2, 0, 3] rfl ?_
        exact w_Water_sinceGreatest_36 C O hm
theorem k_Water_sinceGreatest_6 {G : jG} {X : jX} (C : jC G X cX9_sinceGreatest 4 RX9 1 70) {v1 : Int32} {v2 : Int32} {v3 : Int32} {h : Hp} {out : Int32} (O : (O_Water_sinceGreatest G X h) out) (hm : lp (fun q => s_Water_sinceGreatest_6 q.1 q.2.1 q.2.2 h) (v1, v2, v3) = some out) : J G X 6 [(0, .ref (G.1 + 50)), (1, .int v1), (2, .int v2), (3, .int v3)] [] h :=
  lp_ok (P := P_Water_sinceGreatest_6 G X h) (O := (O_Water_sinceGreatest G X h)) (fun q r hm O => w_Water_sinceGreatest_6 C O hm) hm O
theorem w_Water_sinceGreatest {G : jG} {X : jX} (C : jC G X cX9_sinceGreatest 4 RX9 1 70) {v1 : Int32} {h : Hp} {out : Int32} (O : (O_Water_sinceGreatest G X h) out) (hm : s_Water_sinceGreatest v1 h = some out) : J G X 0 [(0, .ref (G.1 + 50)), (1, .int v1)] [] h := by
  unfold s_Water_sinceGreatest at hm
  refine j_iload_n C 1 dX9_sinceGreatest_0 rfl rfl ?_
  refine j_istore_n C [(2, .int v1), (0, .ref (G.1 + 50)), (1, .int v1)] dX9_sinceGreatest_1 rfl (by decide) rfl ?_
  refine j_iload_n C 2 dX9_sinceGreatest_2 rfl rfl ?_
  refine j_iconst C 1 dX9_sinceGreatest_3 (by decide) ?_
  refine j_isub C dX9_sinceGreatest_4 ?_
  refine j_istore_n C [(3, .int (v1 - ((1 : Int32)))), (2, .int v1), (0, .ref (G.1 + 50)), (1, .int v1)] dX9_sinceGreatest_5 rfl (by decide) rfl ?_
  refine j_sub (L' := [(0, .ref (G.1 + 50)), (1, .int v1), (2, .int v1), (3, .int (v1 - ((1 : Int32))))]) [2, 3, 1, 0] rfl ?_
  exact k_Water_sinceGreatest_6 C O hm
theorem c_Water_sinceGreatest {G : jG} {l : Launch} {v1 : Int32} {h : Hp} {out : Int32} (hm : s_Water_sinceGreatest v1 h = some out) : mt G l yX9_sinceGreatest cX9_sinceGreatest 4 (some .int) 1 70 [.ref (G.1 + 50), .int v1] h (some (.int out)) h :=
  mt_of (by decide) (Nat.le_of_ble_eq_true rfl) _ rfl (fun X I C O => w_Water_sinceGreatest C O hm)
noncomputable def s_Water_slackLength_29 (v3 : Int32) (h : Hp) : Option Int32 :=
  some (v3)
noncomputable def s_Water_slackLength_2 (v1 : Nat) (v2 : Int32) (v3 : Int32) (h : Hp) : Option ((Nat × Int32 × Int32) ⊕ Int32) :=
  if ((1440 : Int32)) ≤ (v2 + v3) then
    inr (s_Water_slackLength_29 v3 h)
  else
    ak h v1 0 <| ib (v2 + v3) (ln h v1) <| (s_Water_isStill (hI h v1 (ix (v2 + v3))) h).bind fun u2 => if u2 = 0 then
      inr (s_Water_slackLength_29 v3 h)
    else
      some (.inl (v1, v2, (v3 + (1 : Int32))))
noncomputable def s_Water_slackLength (v1 : Nat) (v2 : Int32) (h : Hp) : Option Int32 :=
  lp (fun q => s_Water_slackLength_2 q.1 q.2.1 q.2.2 h) (v1, v2, ((0 : Int32)))
def O_Water_slackLength (G : jG) (X : jX) (h : Hp) (out : Int32) : Prop := jO G X (some .int) (some (.int out)) h
def P_Water_slackLength_2 (G : jG) (X : jX) (h : Hp) (q : Nat × Int32 × Int32) : Prop := J G X 2 [(0, .ref (G.1 + 50)), (1, .ref (G.1 + q.1)), (2, .int q.2.1), (3, .int q.2.2)] [] h
def O_Water_slackLength_2 (G : jG) (X : jX) (h : Hp) (t : ((Nat × Int32 × Int32) ⊕ Int32)) : Prop := Sum.elim (P_Water_slackLength_2 G X h) (O_Water_slackLength G X h) t
theorem w_Water_slackLength_29 {G : jG} {X : jX} (C : jC G X cX9_slackLength 4 RX9 2 91) {v3 : Int32} {h : Hp} {out : Int32} (O : (O_Water_slackLength G X h) out) (hm : s_Water_slackLength_29 v3 h = some out) : J G X 29 [(3, .int v3)] [] h := by
  unfold s_Water_slackLength_29 at hm
  refine j_iload_n C 0 dX9_slackLength_29 rfl rfl ?_
  obtain rfl := Option.some.inj hm
  exact j_iret C O dX9_slackLength_30
theorem w_Water_slackLength_2 {G : jG} {X : jX} (C : jC G X cX9_slackLength 4 RX9 2 91) {v1 : Nat} {v2 : Int32} {v3 : Int32} {h : Hp} {out : ((Nat × Int32 × Int32) ⊕ Int32)} (O : (O_Water_slackLength_2 G X h) out) (hm : s_Water_slackLength_2 v1 v2 v3 h = some out) : J G X 2 [(0, .ref (G.1 + 50)), (1, .ref (G.1 + v1)), (2, .int v2), (3, .int v3)] [] h := by
  unfold s_Water_slackLength_2 at hm
  refine j_iload_n C 2 dX9_slackLength_2 rfl rfl ?_
  refine j_iload_n C 3 dX9_slackLength_3 rfl rfl ?_
  refine j_iadd C dX9_slackLength_4 ?_
  refine j_sipush C 1440 dX9_slackLength_5 (by decide) ?_
  refine j_if_icmpge C 29 dX9_slackLength_8 (by decide) hm (fun hm => ?_) (fun hm => ?_)
  · obtain ⟨o_0, hm_0, rfl⟩ := inr_inv hm
    refine j_sub (L' := [(3, .int v3)]) [3] rfl ?_
    exact w_Water_slackLength_29 C O hm_0
  · refine j_aload_n C 0 dX9_slackLength_11 rfl rfl ?_
    refine j_aload_n C 1 dX9_slackLength_12 rfl rfl ?_
    refine j_iload_n C 2 dX9_slackLength_13 rfl rfl ?_
    refine j_iload_n C 3 dX9_slackLength_14 rfl rfl ?_
    refine j_iadd C dX9_slackLength_15 ?_
    obtain ⟨c1, hm⟩ := ak_inv hm
    refine j_iald C c1 hm dX9_slackLength_16 (fun hm => ?_)
    refine j_cV C l_X9_165 [.int (hI h v1 (ix (v2 + v3)))] [] (fun u2 => some (.int u2)) (fun _ => h) (fun u2 => [.int u2]) n_50 hm (fun l u hu => c_Water_isStill hu) rfl (Nat.le_of_ble_eq_true rfl) rfl (Nat.le_of_ble_eq_true rfl) (Nat.le_of_ble_eq_true rfl) (fun _ => rfl) dX9_slackLength_17 (fun u2 hm => ?_)
    refine j_ifeq C 29 dX9_slackLength_20 (by decide) hm (fun hm => ?_) (fun hm => ?_)
    · obtain ⟨o_0, hm_0, rfl⟩ := inr_inv hm
      refine j_sub (L' := [(3, .int v3)]) [3] rfl ?_
      exact w_Water_slackLength_29 C O hm_0
    · refine j_iinc C 3 [(3, .int (v3 + (1 : Int32))), (0, .ref (G.1 + 50)), (1, .ref (G.1 + v1)), (2, .int v2)] dX9_slackLength_23 rfl (add_lit (by decide)) (by decide) rfl ?_
      refine j_goto C 2 dX9_slackLength_26 (by decide) ?_
      obtain rfl := Option.some.inj hm
      refine j_sub (L' := [(0, .ref (G.1 + 50)), (1, .ref (G.1 + v1)), (2, .int v2), (3, .int (v3 + (1 : Int32)))]) [1, 2, 3, 0] rfl ?_
      exact O
theorem k_Water_slackLength_2 {G : jG} {X : jX} (C : jC G X cX9_slackLength 4 RX9 2 91) {v1 : Nat} {v2 : Int32} {v3 : Int32} {h : Hp} {out : Int32} (O : (O_Water_slackLength G X h) out) (hm : lp (fun q => s_Water_slackLength_2 q.1 q.2.1 q.2.2 h) (v1, v2, v3) = some out) : J G X 2 [(0, .ref (G.1 + 50)), (1, .ref (G.1 + v1)), (2, .int v2), (3, .int v3)] [] h :=
  lp_ok (P := P_Water_slackLength_2 G X h) (O := (O_Water_slackLength G X h)) (fun q r hm O => w_Water_slackLength_2 C O hm) hm O
theorem w_Water_slackLength {G : jG} {X : jX} (C : jC G X cX9_slackLength 4 RX9 2 91) {v1 : Nat} {v2 : Int32} {h : Hp} {out : Int32} (O : (O_Water_slackLength G X h) out) (hm : s_Water_slackLength v1 v2 h = some out) : J G X 0 [(0, .ref (G.1 + 50)), (1, .ref (G.1 + v1)), (2, .int v2)] [] h := by
  unfold s_Water_slackLength at hm
  refine j_iconst C 0 dX9_slackLength_0 (by decide) ?_
  refine j_istore_n C [(3, .int ((0 : Int32))), (0, .ref (G.1 + 50)), (1, .ref (G.1 + v1)), (2, .int v2)] dX9_slackLength_1 rfl (by decide) rfl ?_
  refine j_sub (L' := [(0, .ref (G.1 + 50)), (1, .ref (G.1 + v1)), (2, .int v2), (3, .int ((0 : Int32)))]) [1, 2, 3, 0] rfl ?_
  exact k_Water_slackLength_2 C O hm
theorem c_Water_slackLength {G : jG} {l : Launch} {v1 : Nat} {v2 : Int32} {h : Hp} {out : Int32} (hm : s_Water_slackLength v1 v2 h = some out) : mt G l yX9_slackLength cX9_slackLength 4 (some .int) 2 91 [.ref (G.1 + 50), .ref (G.1 + v1), .int v2] h (some (.int out)) h :=
  mt_of (by decide) (Nat.le_of_ble_eq_true rfl) _ rfl (fun X I C O => w_Water_slackLength C O hm)
noncomputable def s_Race_slack (v1 : Int32) (v2 : Int32) (h : Hp) : Option (Int32 × Hp) :=
  (s_Race_isWithin v2 ((0 : Int32)) ((3 : Int32)) h).bind fun u1 => if u1 = 0 then
    some ((-100000 : Int32), h)
  else
    (s_Water_freshenToday h).bind fun u2 => if v1 = ((-1 : Int32)) then
      (s_Water_slacksOf 57 u2).bind fun u11 => some (u11, u2)
    else
      (s_Water_slackStart 57 v1 u2).bind fun u3 => if 0 ≤ u3 then
        if v2 = 0 then
          some (u3, u2)
        else if v2 = 1 then
          (s_Water_slackLength 57 u3 u2).bind fun u4 => some (u4, u2)
        else if v2 = 2 then
          (s_Water_levelToday ((0 : Int32)) u3 u2).bind fun u5 => (s_Water_levelToday ((1 : Int32)) u3 u2).bind fun u6 => some (u5 - u6, u2)
        else 
          (s_Water_sinceGreatest u3 u2).bind fun u10 => some (u10, u2)
      else
        some ((-100000 : Int32), u2)
def O_Race_slack (G : jG) (X : jX) (out : (Int32 × Hp)) : Prop := jO G X (some .int) (some (.int out.1)) out.2
theorem w_Race_slack {G : jG} {X : jX} (C : jC G X cX11_slack 4 RX11 7 230) {v1 : Int32} {v2 : Int32} {h : Hp} {out : (Int32 × Hp)} (O : (O_Race_slack G X) out) (hm : s_Race_slack v1 v2 h = some out) : J G X 0 [(0, .ref (G.1 + 0)), (1, .int v1), (2, .int v2)] [] h := by
  unfold s_Race_slack at hm
  refine j_iload_n C 2 dX11_slack_0 rfl rfl ?_
  refine j_iconst C 0 dX11_slack_1 (by decide) ?_
  refine j_iconst C 3 dX11_slack_2 (by decide) ?_
  refine j_cS C l_X11_102 [.int v2, .int ((0 : Int32)), .int ((3 : Int32))] [] (fun u1 => some (.int u1)) (fun _ => h) (fun u1 => [.int u1]) hm (fun l u hu => c_Race_isWithin hu) rfl (Nat.le_of_ble_eq_true rfl) rfl (Nat.le_of_ble_eq_true rfl) (Nat.le_of_ble_eq_true rfl) (fun _ => rfl) dX11_slack_3 (fun u1 hm => ?_)
  refine j_ifne C 12 dX11_slack_6 (by decide) hm (fun hm => ?_) (fun hm => ?_)
  · refine j_ldc C wd_874 dX11_slack_9 ?_
    obtain rfl := Option.some.inj hm
    exact j_iret C O dX11_slack_11
  · refine j_aload_n C 0 dX11_slack_12 rfl rfl ?_
    refine j_gS C f_X11_45 n_0 q_0_5 dX11_slack_13 ?_
    refine j_cV C l_X11_194 [] [] (fun _ => none) (fun u2 => u2) (fun u2 => []) n_50 hm (fun l u hu => c_Water_freshenToday hu) rfl (Nat.le_of_ble_eq_true rfl) rfl (Nat.le_of_ble_eq_true rfl) (Nat.le_of_ble_eq_true rfl) (fun _ => rfl) dX11_slack_16 (fun u2 hm => ?_)
    refine j_iload_n C 1 dX11_slack_19 rfl rfl ?_
    refine j_iconst C (-1 : Int32) dX11_slack_20 (by decide) ?_
    refine j_if_icmpne C 39 dX11_slack_21 (by decide) hm (fun hm => ?_) (fun hm => ?_)
    · refine j_aload_n C 0 dX11_slack_24 rfl rfl ?_
      refine j_gS C f_X11_45 n_0 q_0_5 dX11_slack_25 ?_
      refine j_aload_n C 0 dX11_slack_28 rfl rfl ?_
      refine j_gS C f_X11_45 n_0 q_0_5 dX11_slack_29 ?_
      refine j_gS C f_X11_197 n_50 q_50_5 dX11_slack_32 ?_
      refine j_cV C l_X11_209 [.ref (G.1 + 57)] [] (fun u11 => some (.int u11)) (fun _ => u2) (fun u11 => [.int u11]) n_50 hm (fun l u hu => c_Water_slacksOf hu) rfl (Nat.le_of_ble_eq_true rfl) rfl (Nat.le_of_ble_eq_true rfl) (Nat.le_of_ble_eq_true rfl) (fun _ => rfl) dX11_slack_35 (fun u11 hm => ?_)
      obtain rfl := Option.some.inj hm
      exact j_iret C O dX11_slack_38
    · refine j_aload_n C 0 dX11_slack_39 rfl rfl ?_
      refine j_gS C f_X11_45 n_0 q_0_5 dX11_slack_40 ?_
      refine j_aload_n C 0 dX11_slack_43 rfl rfl ?_
      refine j_gS C f_X11_45 n_0 q_0_5 dX11_slack_44 ?_
      refine j_gS C f_X11_197 n_50 q_50_5 dX11_slack_47 ?_
      refine j_iload_n C 1 dX11_slack_50 rfl rfl ?_
      refine j_cV C l_X11_213 [.ref (G.1 + 57), .int v1] [] (fun u3 => some (.int u3)) (fun _ => u2) (fun u3 => [.int u3]) n_50 hm (fun l u hu => c_Water_slackStart hu) rfl (Nat.le_of_ble_eq_true rfl) rfl (Nat.le_of_ble_eq_true rfl) (Nat.le_of_ble_eq_true rfl) (fun _ => rfl) dX11_slack_51 (fun u3 hm => ?_)
      refine j_istore_n C [(3, .int u3), (0, .ref (G.1 + 0)), (1, .int v1), (2, .int v2)] dX11_slack_54 rfl (by decide) rfl ?_
      refine j_iload_n C 0 dX11_slack_55 rfl rfl ?_
      refine j_ifge C 62 dX11_slack_56 (by decide) hm (fun hm => ?_) (fun hm => ?_)
      · refine j_iload_n C 3 dX11_slack_62 rfl rfl ?_
        rcases if_inv hm with ⟨c7, hm⟩ | ⟨c7, hm⟩
        · refine j_swIn C 0 88 dX11_slack_63 c7 (by decide) (by decide) rfl (by decide) ?_
          refine j_iload_n C 0 dX11_slack_88 rfl rfl ?_
          obtain rfl := Option.some.inj hm
          exact j_iret C O dX11_slack_89
        rcases if_inv hm with ⟨c8, hm⟩ | ⟨c8, hm⟩
        · refine j_swIn C 1 90 dX11_slack_63 c8 (by decide) (by decide) rfl (by decide) ?_
          refine j_aload_n C 1 dX11_slack_90 rfl rfl ?_
          refine j_gS C f_X11_45 n_0 q_0_5 dX11_slack_91 ?_
          refine j_aload_n C 1 dX11_slack_94 rfl rfl ?_
          refine j_gS C f_X11_45 n_0 q_0_5 dX11_slack_95 ?_
          refine j_gS C f_X11_197 n_50 q_50_5 dX11_slack_98 ?_
          refine j_iload_n C 0 dX11_slack_101 rfl rfl ?_
          refine j_cV C l_X11_217 [.ref (G.1 + 57), .int u3] [] (fun u4 => some (.int u4)) (fun _ => u2) (fun u4 => [.int u4]) n_50 hm (fun l u hu => c_Water_slackLength hu) rfl (Nat.le_of_ble_eq_true rfl) rfl (Nat.le_of_ble_eq_true rfl) (Nat.le_of_ble_eq_true rfl) (fun _ => rfl) dX11_slack_102 (fun u4 hm => ?_)
          obtain rfl := Option.some.inj hm
          exact j_iret C O dX11_slack_105
        rcases if_inv hm with ⟨c9, hm⟩ | ⟨c9, hm⟩
        · refine j_swIn C 2 106 dX11_slack_63 c9 (by decide) (by decide) rfl (by decide) ?_
          refine j_aload_n C 1 dX11_slack_106 rfl rfl ?_
          refine j_gS C f_X11_45 n_0 q_0_5 dX11_slack_107 ?_
          refine j_iconst C 0 dX11_slack_110 (by decide) ?_
          refine j_iload_n C 0 dX11_slack_111 rfl rfl ?_
          refine j_cV C l_X11_191 [.int ((0 : Int32)), .int u3] [] (fun u5 => some (.int u5)) (fun _ => u2) (fun u5 => [.int u5]) n_50 hm (fun l u hu => c_Water_levelToday hu) rfl (Nat.le_of_ble_eq_true rfl) rfl (Nat.le_of_ble_eq_true rfl) (Nat.le_of_ble_eq_true rfl) (fun _ => rfl) dX11_slack_112 (fun u5 hm => ?_)
          refine j_aload_n C 1 dX11_slack_115 rfl rfl ?_
          refine j_gS C f_X11_45 n_0 q_0_5 dX11_slack_116 ?_
          refine j_iconst C 1 dX11_slack_119 (by decide) ?_
          refine j_iload_n C 0 dX11_slack_120 rfl rfl ?_
          refine j_cV C l_X11_191 [.int ((1 : Int32)), .int u3] [.int u5] (fun u6 => some (.int u6)) (fun _ => u2) (fun u6 => [.int u6, .int u5]) n_50 hm (fun l u hu => c_Water_levelToday hu) rfl (Nat.le_of_ble_eq_true rfl) rfl (Nat.le_of_ble_eq_true rfl) (Nat.le_of_ble_eq_true rfl) (fun _ => rfl) dX11_slack_121 (fun u6 hm => ?_)
          refine j_isub C dX11_slack_124 ?_
          obtain rfl := Option.some.inj hm
          exact j_iret C O dX11_slack_125
        refine j_tableOut C 126 dX11_slack_63 (by have e0 := sw_ne (n := 0) c7 (by decide); have e1 := sw_ne (n := 1) c8 (by decide); have e2 := sw_ne (n := 2) c9 (by decide); omega) (by decide) ?_
        refine j_aload_n C 1 dX11_slack_126 rfl rfl ?_
        refine j_gS C f_X11_45 n_0 q_0_5 dX11_slack_127 ?_
        refine j_iload_n C 0 dX11_slack_130 rfl rfl ?_
        refine j_cV C l_X11_220 [.int u3] [] (fun u10 => some (.int u10)) (fun _ => u2) (fun u10 => [.int u10]) n_50 hm (fun l u hu => c_Water_sinceGreatest hu) rfl (Nat.le_of_ble_eq_true rfl) rfl (Nat.le_of_ble_eq_true rfl) (Nat.le_of_ble_eq_true rfl) (fun _ => rfl) dX11_slack_131 (fun u10 hm => ?_)
        obtain rfl := Option.some.inj hm
        exact j_iret C O dX11_slack_134
      · refine j_ldc C wd_874 dX11_slack_59 ?_
        obtain rfl := Option.some.inj hm
        exact j_iret C O dX11_slack_61
theorem c_Race_slack {G : jG} {l : Launch} {v1 : Int32} {v2 : Int32} {h : Hp} {out : (Int32 × Hp)} (hm : s_Race_slack v1 v2 h = some out) : mt G l yX11_slack cX11_slack 4 (some .int) 7 230 [.ref (G.1 + 0), .int v1, .int v2] h (some (.int out.1)) out.2 :=
  mt_of (by decide) (Nat.le_of_ble_eq_true rfl) _ rfl (fun X I C O => w_Race_slack C O hm)
noncomputable def s_Ways_firstStepAt_62 (v3 : Int32) (v6 : Int32) (s0 : Int64) (h : Hp) : Option ((Int32 × Int64 × Int32) ⊕ Int32) :=
  some (.inl (v3, s0, (v6 + (1 : Int32))))
noncomputable def s_Ways_firstStepAt_70 (h : Hp) : Option Int32 :=
  some ((-1 : Int32))
noncomputable def s_Ways_firstStepAt_15 (v3 : Int32) (v4 : Int64) (v6 : Int32) (h : Hp) : Option ((Int32 × Int64 × Int32) ⊕ Int32) :=
  if ((144 : Int32)) ≤ v6 then
    inr (s_Ways_firstStepAt_70 h)
  else
    if (lg_cmp v4 ((0 : Int64))) = 0 then
      inr (s_Ways_firstStepAt_70 h)
    else
      (s_Ways_has v4 v3 h).bind fun u1 => if u1 = 0 then
        if ((143 : Int32)) ≤ v6 then
          s_Ways_firstStepAt_62 v3 v6 ((0 : Int64)) h
        else
          (s_Ways_reached v4 v6 h).bind fun u2 => s_Ways_firstStepAt_62 v3 v6 u2 h
      else
        some (.inr (v6))
noncomputable def s_Ways_firstStepAt (v1 : Int32) (v2 : Int32) (v3 : Int32) (h : Hp) : Option Int32 :=
  ib v1 144 <| lt ((hL h 62 (ix v1)) &&& (z_lshl ((1 : Int64)) v2)) fun x1 => lp (fun q => s_Ways_firstStepAt_15 q.1 q.2.1 q.2.2 h) (v3, x1, v1)
def O_Ways_firstStepAt (G : jG) (X : jX) (h : Hp) (out : Int32) : Prop := jO G X (some .int) (some (.int out)) h
def P_Ways_firstStepAt_15 (G : jG) (X : jX) (h : Hp) (q : Int32 × Int64 × Int32) : Prop := J G X 15 [(0, .ref (G.1 + 58)), (3, .int q.1), (4, .long q.2.1), (6, .int q.2.2)] [] h
def O_Ways_firstStepAt_15 (G : jG) (X : jX) (h : Hp) (t : ((Int32 × Int64 × Int32) ⊕ Int32)) : Prop := Sum.elim (P_Ways_firstStepAt_15 G X h) (O_Ways_firstStepAt G X h) t
theorem w_Ways_firstStepAt_62 {G : jG} {X : jX} (C : jC G X cX10_firstStepAt 7 RX10 2 97) {v3 : Int32} {v6 : Int32} {s0 : Int64} {h : Hp} {out : ((Int32 × Int64 × Int32) ⊕ Int32)} (O : (O_Ways_firstStepAt_15 G X h) out) (hm : s_Ways_firstStepAt_62 v3 v6 s0 h = some out) : J G X 62 [(0, .ref (G.1 + 58)), (3, .int v3), (6, .int v6)] [.long s0] h := by
  unfold s_Ways_firstStepAt_62 at hm
  refine j_lstore C [(4, .long s0), (0, .ref (G.1 + 58)), (3, .int v3), (6, .int v6)] dX10_firstStepAt_62 (by decide) rfl ?_
  refine j_iinc C 3 [(6, .int (v6 + (1 : Int32))), (4, .long s0), (0, .ref (G.1 + 58)), (3, .int v3)] dX10_firstStepAt_64 rfl (add_lit (by decide)) (by decide) rfl ?_
  refine j_goto C 15 dX10_firstStepAt_67 (by decide) ?_
  obtain rfl := Option.some.inj hm
  refine j_sub (L' := [(0, .ref (G.1 + 58)), (3, .int v3), (4, .long s0), (6, .int (v6 + (1 : Int32)))]) [2, 3, 1, 0] rfl ?_
  exact O
theorem w_Ways_firstStepAt_70 {G : jG} {X : jX} (C : jC G X cX10_firstStepAt 7 RX10 2 97) {h : Hp} {out : Int32} (O : (O_Ways_firstStepAt G X h) out) (hm : s_Ways_firstStepAt_70 h = some out) : J G X 70 [] [] h := by
  unfold s_Ways_firstStepAt_70 at hm
  refine j_iconst C (-1 : Int32) dX10_firstStepAt_70 (by decide) ?_
  obtain rfl := Option.some.inj hm
  exact j_iret C O dX10_firstStepAt_71
theorem w_Ways_firstStepAt_15 {G : jG} {X : jX} (C : jC G X cX10_firstStepAt 7 RX10 2 97) {v3 : Int32} {v4 : Int64} {v6 : Int32} {h : Hp} {out : ((Int32 × Int64 × Int32) ⊕ Int32)} (O : (O_Ways_firstStepAt_15 G X h) out) (hm : s_Ways_firstStepAt_15 v3 v4 v6 h = some out) : J G X 15 [(0, .ref (G.1 + 58)), (3, .int v3), (4, .long v4), (6, .int v6)] [] h := by
  unfold s_Ways_firstStepAt_15 at hm
  refine j_iload C 3 dX10_firstStepAt_15 rfl ?_
  refine j_sipush C 144 dX10_firstStepAt_17 (by decide) ?_
  refine j_if_icmpge C 70 dX10_firstStepAt_20 (by decide) hm (fun hm => ?_) (fun hm => ?_)
  · obtain ⟨o_0, hm_0, rfl⟩ := inr_inv hm
    refine j_sub (L' := []) [] rfl ?_
    exact w_Ways_firstStepAt_70 C O hm_0
  · refine j_lload C 2 dX10_firstStepAt_23 rfl ?_
    refine j_lconst C 0 dX10_firstStepAt_25 (by decide) ?_
    refine j_lcmp C dX10_firstStepAt_26 ?_
    refine j_ifeq C 70 dX10_firstStepAt_27 (by decide) hm (fun hm => ?_) (fun hm => ?_)
    · obtain ⟨o_0, hm_0, rfl⟩ := inr_inv hm
      refine j_sub (L' := []) [] rfl ?_
      exact w_Ways_firstStepAt_70 C O hm_0
    · refine j_lload C 2 dX10_firstStepAt_30 rfl ?_
      refine j_iload_n C 1 dX10_firstStepAt_32 rfl rfl ?_
      refine j_cS C l_X10_103 [.long v4, .int v3] [] (fun u1 => some (.int u1)) (fun _ => h) (fun u1 => [.int u1]) hm (fun l u hu => c_Ways_has hu) rfl (Nat.le_of_ble_eq_true rfl) rfl (Nat.le_of_ble_eq_true rfl) (Nat.le_of_ble_eq_true rfl) (fun _ => rfl) dX10_firstStepAt_33 (fun u1 hm => ?_)
      refine j_ifeq C 42 dX10_firstStepAt_36 (by decide) hm (fun hm => ?_) (fun hm => ?_)
      · refine j_iload C 3 dX10_firstStepAt_42 rfl ?_
        refine j_sipush C 143 dX10_firstStepAt_44 (by decide) ?_
        refine j_if_icmpge C 61 dX10_firstStepAt_47 (by decide) hm (fun hm => ?_) (fun hm => ?_)
        · refine j_lconst C 0 dX10_firstStepAt_61 (by decide) ?_
          refine j_sub (L' := [(0, .ref (G.1 + 58)), (3, .int v3), (6, .int v6)]) [0, 1, 3] rfl ?_
          exact w_Ways_firstStepAt_62 C O hm
        · refine j_aload_n C 0 dX10_firstStepAt_50 rfl rfl ?_
          refine j_lload C 2 dX10_firstStepAt_51 rfl ?_
          refine j_iload C 3 dX10_firstStepAt_53 rfl ?_
          refine j_cV C l_X10_107 [.long v4, .int v6] [] (fun u2 => some (.long u2)) (fun _ => h) (fun u2 => [.long u2]) n_58 hm (fun l u hu => c_Ways_reached hu) rfl (Nat.le_of_ble_eq_true rfl) rfl (Nat.le_of_ble_eq_true rfl) (Nat.le_of_ble_eq_true rfl) (fun _ => rfl) dX10_firstStepAt_55 (fun u2 hm => ?_)
          refine j_goto C 62 dX10_firstStepAt_58 (by decide) ?_
          refine j_sub (L' := [(0, .ref (G.1 + 58)), (3, .int v3), (6, .int v6)]) [0, 1, 3] rfl ?_
          exact w_Ways_firstStepAt_62 C O hm
      · refine j_iload C 3 dX10_firstStepAt_39 rfl ?_
        obtain rfl := Option.some.inj hm
        exact j_iret C O dX10_firstStepAt_41
theorem k_Ways_firstStepAt_15 {G : jG} {X : jX} (C : jC G X cX10_firstStepAt 7 RX10 2 97) {v3 : Int32} {v4 : Int64} {v6 : Int32} {h : Hp} {out : Int32} (O : (O_Ways_firstStepAt G X h) out) (hm : lp (fun q => s_Ways_firstStepAt_15 q.1 q.2.1 q.2.2 h) (v3, v4, v6) = some out) : J G X 15 [(0, .ref (G.1 + 58)), (3, .int v3), (4, .long v4), (6, .int v6)] [] h :=
  lp_ok (P := P_Ways_firstStepAt_15 G X h) (O := (O_Ways_firstStepAt G X h)) (fun q r hm O => w_Ways_firstStepAt_15 C O hm) hm O
theorem w_Ways_firstStepAt {G : jG} {X : jX} (C : jC G X cX10_firstStepAt 7 RX10 2 97) {v1 : Int32} {v2 : Int32} {v3 : Int32} {h : Hp} {out : Int32} (O : (O_Ways_firstStepAt G X h) out) (hm : s_Ways_firstStepAt v1 v2 v3 h = some out) : J G X 0 [(0, .ref (G.1 + 58)), (1, .int v1), (2, .int v2), (3, .int v3)] [] h := by
  unfold s_Ways_firstStepAt at hm
  refine j_aload_n C 0 dX10_firstStepAt_0 rfl rfl ?_
  refine j_gS C f_X10_22 n_58 q_58_5 dX10_firstStepAt_1 ?_
  refine j_iload_n C 1 dX10_firstStepAt_4 rfl rfl ?_
  refine j_lald C n_62 hm dX10_firstStepAt_5 (fun hm => ?_)
  refine j_lconst C 1 dX10_firstStepAt_6 (by decide) ?_
  refine j_iload_n C 2 dX10_firstStepAt_7 rfl rfl ?_
  refine j_lshl C dX10_firstStepAt_8 ?_
  refine j_land C dX10_firstStepAt_9 ?_
  refine j_nmL hm (fun x1 hm => ?_)
  refine j_lstore C [(4, .long x1), (0, .ref (G.1 + 58)), (1, .int v1), (2, .int v2), (3, .int v3)] dX10_firstStepAt_10 (by decide) rfl ?_
  refine j_iload_n C 2 dX10_firstStepAt_12 rfl rfl ?_
  refine j_istore C [(6, .int v1), (4, .long x1), (0, .ref (G.1 + 58)), (1, .int v1), (2, .int v2), (3, .int v3)] dX10_firstStepAt_13 (by decide) rfl ?_
  refine j_sub (L' := [(0, .ref (G.1 + 58)), (3, .int v3), (4, .long x1), (6, .int v1)]) [2, 5, 1, 0] rfl ?_
  exact k_Ways_firstStepAt_15 C O hm
theorem c_Ways_firstStepAt {G : jG} {l : Launch} {v1 : Int32} {v2 : Int32} {v3 : Int32} {h : Hp} {out : Int32} (hm : s_Ways_firstStepAt v1 v2 v3 h = some out) : mt G l yX10_firstStepAt cX10_firstStepAt 7 (some .int) 2 97 [.ref (G.1 + 58), .int v1, .int v2, .int v3] h (some (.int out)) h :=
  mt_of (by decide) (Nat.le_of_ble_eq_true rfl) _ rfl (fun X I C O => w_Ways_firstStepAt C O hm)
noncomputable def s_Race_soonest_30 (h : Hp) : Option (Int32 × Hp) :=
  some ((-1 : Int32), h)
noncomputable def s_Race_soonest (v1 : Int32) (v2 : Int32) (v3 : Int32) (v4 : Int32) (h : Hp) : Option (Int32 × Hp) :=
  (s_Race_isBoat v1 h).bind fun u1 => if u1 = 0 then
    s_Race_soonest_30 h
  else
    (s_Race_isStep v2 h).bind fun u2 => if u2 = 0 then
      s_Race_soonest_30 h
    else
      (s_Race_isCell v3 h).bind fun u3 => if u3 = 0 then
        s_Race_soonest_30 h
      else
        (s_Race_isCell v4 h).bind fun u4 => if u4 = 0 then
          s_Race_soonest_30 h
        else
          (s_Water_freshenToday h).bind fun u5 => (s_Ways_survey v1 u5).bind fun u6 => (s_Ways_firstStepAt v2 v3 v4 u6).bind fun u7 => some (u7, u6)
def O_Race_soonest (G : jG) (X : jX) (out : (Int32 × Hp)) : Prop := jO G X (some .int) (some (.int out.1)) out.2
theorem w_Race_soonest_30 {G : jG} {X : jX} (C : jC G X cX11_soonest 5 RX11 7 230) {h : Hp} {out : (Int32 × Hp)} (O : (O_Race_soonest G X) out) (hm : s_Race_soonest_30 h = some out) : J G X 30 [] [] h := by
  unfold s_Race_soonest_30 at hm
  refine j_iconst C (-1 : Int32) dX11_soonest_30 (by decide) ?_
  obtain rfl := Option.some.inj hm
  exact j_iret C O dX11_soonest_31
theorem w_Race_soonest {G : jG} {X : jX} (C : jC G X cX11_soonest 5 RX11 7 230) {v1 : Int32} {v2 : Int32} {v3 : Int32} {v4 : Int32} {h : Hp} {out : (Int32 × Hp)} (O : (O_Race_soonest G X) out) (hm : s_Race_soonest v1 v2 v3 v4 h = some out) : J G X 0 [(0, .ref (G.1 + 0)), (1, .int v1), (2, .int v2), (3, .int v3), (4, .int v4)] [] h := by
  unfold s_Race_soonest at hm
  refine j_aload_n C 0 dX11_soonest_0 rfl rfl ?_
  refine j_iload_n C 1 dX11_soonest_1 rfl rfl ?_
  refine j_cV C l_X11_238 [.int v1] [] (fun u1 => some (.int u1)) (fun _ => h) (fun u1 => [.int u1]) n_0 hm (fun l u hu => c_Race_isBoat hu) rfl (Nat.le_of_ble_eq_true rfl) rfl (Nat.le_of_ble_eq_true rfl) (Nat.le_of_ble_eq_true rfl) (fun _ => rfl) dX11_soonest_2 (fun u1 hm => ?_)
  refine j_ifeq C 30 dX11_soonest_5 (by decide) hm (fun hm => ?_) (fun hm => ?_)
  · refine j_sub (L' := []) [] rfl ?_
    exact w_Race_soonest_30 C O hm
  · refine j_iload_n C 2 dX11_soonest_8 rfl rfl ?_
    refine j_cS C l_X11_241 [.int v2] [] (fun u2 => some (.int u2)) (fun _ => h) (fun u2 => [.int u2]) hm (fun l u hu => c_Race_isStep hu) rfl (Nat.le_of_ble_eq_true rfl) rfl (Nat.le_of_ble_eq_true rfl) (Nat.le_of_ble_eq_true rfl) (fun _ => rfl) dX11_soonest_9 (fun u2 hm => ?_)
    refine j_ifeq C 30 dX11_soonest_12 (by decide) hm (fun hm => ?_) (fun hm => ?_)
    · refine j_sub (L' := []) [] rfl ?_
      exact w_Race_soonest_30 C O hm
    · refine j_iload_n C 3 dX11_soonest_15 rfl rfl ?_
      refine j_cS C l_X11_200 [.int v3] [] (fun u3 => some (.int u3)) (fun _ => h) (fun u3 => [.int u3]) hm (fun l u hu => c_Race_isCell hu) rfl (Nat.le_of_ble_eq_true rfl) rfl (Nat.le_of_ble_eq_true rfl) (Nat.le_of_ble_eq_true rfl) (fun _ => rfl) dX11_soonest_16 (fun u3 hm => ?_)
      refine j_ifeq C 30 dX11_soonest_19 (by decide) hm (fun hm => ?_) (fun hm => ?_)
      · refine j_sub (L' := []) [] rfl ?_
        exact w_Race_soonest_30 C O hm
      · refine j_iload C 4 dX11_soonest_22 rfl ?_
        refine j_cS C l_X11_200 [.int v4] [] (fun u4 => some (.int u4)) (fun _ => h) (fun u4 => [.int u4]) hm (fun l u hu => c_Race_isCell hu) rfl (Nat.le_of_ble_eq_true rfl) rfl (Nat.le_of_ble_eq_true rfl) (Nat.le_of_ble_eq_true rfl) (fun _ => rfl) dX11_soonest_24 (fun u4 hm => ?_)
        refine j_ifne C 32 dX11_soonest_27 (by decide) hm (fun hm => ?_) (fun hm => ?_)
        · refine j_sub (L' := []) [] rfl ?_
          exact w_Race_soonest_30 C O hm
        · refine j_aload_n C 0 dX11_soonest_32 rfl rfl ?_
          refine j_gS C f_X11_45 n_0 q_0_5 dX11_soonest_33 ?_
          refine j_cV C l_X11_194 [] [] (fun _ => none) (fun u5 => u5) (fun u5 => []) n_50 hm (fun l u hu => c_Water_freshenToday hu) rfl (Nat.le_of_ble_eq_true rfl) rfl (Nat.le_of_ble_eq_true rfl) (Nat.le_of_ble_eq_true rfl) (fun _ => rfl) dX11_soonest_36 (fun u5 hm => ?_)
          refine j_aload_n C 0 dX11_soonest_39 rfl rfl ?_
          refine j_gS C f_X11_54 n_0 q_0_6 dX11_soonest_40 ?_
          refine j_iload_n C 1 dX11_soonest_43 rfl rfl ?_
          refine j_cV C l_X11_244 [.int v1] [] (fun _ => none) (fun u6 => u6) (fun u6 => []) n_58 hm (fun l u hu => c_Ways_survey hu) rfl (Nat.le_of_ble_eq_true rfl) rfl (Nat.le_of_ble_eq_true rfl) (Nat.le_of_ble_eq_true rfl) (fun _ => rfl) dX11_soonest_44 (fun u6 hm => ?_)
          refine j_aload_n C 0 dX11_soonest_47 rfl rfl ?_
          refine j_gS C f_X11_54 n_0 q_0_6 dX11_soonest_48 ?_
          refine j_iload_n C 2 dX11_soonest_51 rfl rfl ?_
          refine j_iload_n C 3 dX11_soonest_52 rfl rfl ?_
          refine j_iload C 4 dX11_soonest_53 rfl ?_
          refine j_cV C l_X11_247 [.int v2, .int v3, .int v4] [] (fun u7 => some (.int u7)) (fun _ => u6) (fun u7 => [.int u7]) n_58 hm (fun l u hu => c_Ways_firstStepAt hu) rfl (Nat.le_of_ble_eq_true rfl) rfl (Nat.le_of_ble_eq_true rfl) (Nat.le_of_ble_eq_true rfl) (fun _ => rfl) dX11_soonest_55 (fun u7 hm => ?_)
          obtain rfl := Option.some.inj hm
          exact j_iret C O dX11_soonest_58
theorem c_Race_soonest {G : jG} {l : Launch} {v1 : Int32} {v2 : Int32} {v3 : Int32} {v4 : Int32} {h : Hp} {out : (Int32 × Hp)} (hm : s_Race_soonest v1 v2 v3 v4 h = some out) : mt G l yX11_soonest cX11_soonest 5 (some .int) 7 230 [.ref (G.1 + 0), .int v1, .int v2, .int v3, .int v4] h (some (.int out.1)) out.2 :=
  mt_of (by decide) (Nat.le_of_ble_eq_true rfl) _ rfl (fun X I C O => w_Race_soonest C O hm)
noncomputable def s_Race_status (h : Hp) : Option Int32 :=
  some (hI h 0 12)
def O_Race_status (G : jG) (X : jX) (h : Hp) (out : Int32) : Prop := jO G X (some .int) (some (.int out)) h
theorem w_Race_status {G : jG} {X : jX} (C : jC G X cX11_status 1 RX11 1 70) {h : Hp} {out : Int32} (O : (O_Race_status G X h) out) (hm : s_Race_status h = some out) : J G X 0 [(0, .ref (G.1 + 0))] [] h := by
  unfold s_Race_status at hm
  refine j_aload_n C 0 dX11_status_0 rfl rfl ?_
  refine j_gI C f_X11_92 n_0 dX11_status_1 ?_
  obtain rfl := Option.some.inj hm
  exact j_iret C O dX11_status_4
theorem c_Race_status {G : jG} {l : Launch} {h : Hp} {out : Int32} (hm : s_Race_status h = some out) : mt G l yX11_status cX11_status 1 (some .int) 1 70 [.ref (G.1 + 0)] h (some (.int out)) h :=
  mt_of (by decide) (Nat.le_of_ble_eq_true rfl) _ rfl (fun X I C O => w_Race_status C O hm)
noncomputable def s_Water_takenBy_18 (v1 : Int32) (h : Hp) : Option (Int64 × Hp) :=
  ib v1 21 <| some (hL h 56 (ix v1), h)
noncomputable def s_Water_takenBy (v1 : Int32) (h : Hp) : Option (Int64 × Hp) :=
  ib v1 21 <| if (lg_cmp (hL h 56 (ix v1)) ((-1 : Int64))) = 0 then
    (s_Water_drive v1 h).bind fun u1 => s_Water_takenBy_18 v1 u1
  else
    s_Water_takenBy_18 v1 h
def O_Water_takenBy (G : jG) (X : jX) (out : (Int64 × Hp)) : Prop := jO G X (some .long) (some (.long out.1)) out.2
theorem w_Water_takenBy_18 {G : jG} {X : jX} (C : jC G X cX9_takenBy 2 RX9 7 231) {v1 : Int32} {h : Hp} {out : (Int64 × Hp)} (O : (O_Water_takenBy G X) out) (hm : s_Water_takenBy_18 v1 h = some out) : J G X 18 [(0, .ref (G.1 + 50)), (1, .int v1)] [] h := by
  unfold s_Water_takenBy_18 at hm
  refine j_aload_n C 0 dX9_takenBy_18 rfl rfl ?_
  refine j_gS C f_X9_25 n_50 q_50_4 dX9_takenBy_19 ?_
  refine j_iload_n C 1 dX9_takenBy_22 rfl rfl ?_
  refine j_lald C n_56 hm dX9_takenBy_23 (fun hm => ?_)
  obtain rfl := Option.some.inj hm
  exact j_lret C O dX9_takenBy_24
theorem w_Water_takenBy {G : jG} {X : jX} (C : jC G X cX9_takenBy 2 RX9 7 231) {v1 : Int32} {h : Hp} {out : (Int64 × Hp)} (O : (O_Water_takenBy G X) out) (hm : s_Water_takenBy v1 h = some out) : J G X 0 [(0, .ref (G.1 + 50)), (1, .int v1)] [] h := by
  unfold s_Water_takenBy at hm
  refine j_aload_n C 0 dX9_takenBy_0 rfl rfl ?_
  refine j_gS C f_X9_25 n_50 q_50_4 dX9_takenBy_1 ?_
  refine j_iload_n C 1 dX9_takenBy_4 rfl rfl ?_
  refine j_lald C n_56 hm dX9_takenBy_5 (fun hm => ?_)
  refine j_ldc2 C wd_336 dX9_takenBy_6 ?_
  refine j_lcmp C dX9_takenBy_9 ?_
  refine j_ifne C 18 dX9_takenBy_10 (by decide) hm (fun hm => ?_) (fun hm => ?_)
  · refine j_aload_n C 0 dX9_takenBy_13 rfl rfl ?_
    refine j_iload_n C 1 dX9_takenBy_14 rfl rfl ?_
    refine j_cV C l_X9_169 [.int v1] [] (fun _ => none) (fun u1 => u1) (fun u1 => []) n_50 hm (fun l u hu => c_Water_drive hu) rfl (Nat.le_of_ble_eq_true rfl) rfl (Nat.le_of_ble_eq_true rfl) (Nat.le_of_ble_eq_true rfl) (fun _ => rfl) dX9_takenBy_15 (fun u1 hm => ?_)
    refine j_sub (L' := [(0, .ref (G.1 + 50)), (1, .int v1)]) [0, 1] rfl ?_
    exact w_Water_takenBy_18 C O hm
  · refine j_sub (L' := [(0, .ref (G.1 + 50)), (1, .int v1)]) [0, 1] rfl ?_
    exact w_Water_takenBy_18 C O hm
theorem c_Water_takenBy {G : jG} {l : Launch} {v1 : Int32} {h : Hp} {out : (Int64 × Hp)} (hm : s_Water_takenBy v1 h = some out) : mt G l yX9_takenBy cX9_takenBy 2 (some .long) 7 231 [.ref (G.1 + 50), .int v1] h (some (.long out.1)) out.2 :=
  mt_of (by decide) (Nat.le_of_ble_eq_true rfl) _ rfl (fun X I C O => w_Water_takenBy C O hm)
noncomputable def s_Race_taken_24 (s0 : Int64) (h : Hp) : Option (Int64 × Hp) :=
  some (s0, h)
noncomputable def s_Race_taken (v1 : Int32) (h : Hp) : Option (Int64 × Hp) :=
  (s_Race_isWithin v1 ((0 : Int32)) ((20 : Int32)) h).bind fun u1 => if u1 = 0 then
    s_Race_taken_24 ((-1 : Int64)) h
  else
    (s_Water_takenBy v1 h).bind fun u2 => s_Race_taken_24 u2.1 u2.2
def O_Race_taken (G : jG) (X : jX) (out : (Int64 × Hp)) : Prop := jO G X (some .long) (some (.long out.1)) out.2
theorem w_Race_taken_24 {G : jG} {X : jX} (C : jC G X cX11_taken 2 RX11 8 252) {s0 : Int64} {h : Hp} {out : (Int64 × Hp)} (O : (O_Race_taken G X) out) (hm : s_Race_taken_24 s0 h = some out) : J G X 24 [] [.long s0] h := by
  unfold s_Race_taken_24 at hm
  obtain rfl := Option.some.inj hm
  exact j_lret C O dX11_taken_24
theorem w_Race_taken {G : jG} {X : jX} (C : jC G X cX11_taken 2 RX11 8 252) {v1 : Int32} {h : Hp} {out : (Int64 × Hp)} (O : (O_Race_taken G X) out) (hm : s_Race_taken v1 h = some out) : J G X 0 [(0, .ref (G.1 + 0)), (1, .int v1)] [] h := by
  unfold s_Race_taken at hm
  refine j_iload_n C 1 dX11_taken_0 rfl rfl ?_
  refine j_iconst C 0 dX11_taken_1 (by decide) ?_
  refine j_bipush C 20 dX11_taken_2 (by decide) ?_
  refine j_cS C l_X11_102 [.int v1, .int ((0 : Int32)), .int ((20 : Int32))] [] (fun u1 => some (.int u1)) (fun _ => h) (fun u1 => [.int u1]) hm (fun l u hu => c_Race_isWithin hu) rfl (Nat.le_of_ble_eq_true rfl) rfl (Nat.le_of_ble_eq_true rfl) (Nat.le_of_ble_eq_true rfl) (fun _ => rfl) dX11_taken_4 (fun u1 hm => ?_)
  refine j_ifeq C 21 dX11_taken_7 (by decide) hm (fun hm => ?_) (fun hm => ?_)
  · refine j_ldc2 C wd_1180 dX11_taken_21 ?_
    refine j_sub (L' := []) [] rfl ?_
    exact w_Race_taken_24 C O hm
  · refine j_aload_n C 0 dX11_taken_10 rfl rfl ?_
    refine j_gS C f_X11_45 n_0 q_0_5 dX11_taken_11 ?_
    refine j_iload_n C 1 dX11_taken_14 rfl rfl ?_
    refine j_cV C l_X11_301 [.int v1] [] (fun u2 => some (.long u2.1)) (fun u2 => u2.2) (fun u2 => [.long u2.1]) n_50 hm (fun l u hu => c_Water_takenBy hu) rfl (Nat.le_of_ble_eq_true rfl) rfl (Nat.le_of_ble_eq_true rfl) (Nat.le_of_ble_eq_true rfl) (fun _ => rfl) dX11_taken_15 (fun u2 hm => ?_)
    refine j_goto C 24 dX11_taken_18 (by decide) ?_
    refine j_sub (L' := []) [] rfl ?_
    exact w_Race_taken_24 C O hm
theorem c_Race_taken {G : jG} {l : Launch} {v1 : Int32} {h : Hp} {out : (Int64 × Hp)} (hm : s_Race_taken v1 h = some out) : mt G l yX11_taken cX11_taken 2 (some .long) 8 252 [.ref (G.1 + 0), .int v1] h (some (.long out.1)) out.2 :=
  mt_of (by decide) (Nat.le_of_ble_eq_true rfl) _ rfl (fun X I C O => w_Race_taken C O hm)
noncomputable def s_Race_tear (h : Hp) : Option (Int32 × Hp) :=
  some (hI h 1 16, sI h 1 16 ((0 : Int32)))
def O_Race_tear (G : jG) (X : jX) (out : (Int32 × Hp)) : Prop := jO G X (some .int) (some (.int out.1)) out.2
theorem w_Race_tear {G : jG} {X : jX} (C : jC G X cX11_tear 2 RX11 1 70) {h : Hp} {out : (Int32 × Hp)} (O : (O_Race_tear G X) out) (hm : s_Race_tear h = some out) : J G X 0 [(0, .ref (G.1 + 0))] [] h := by
  unfold s_Race_tear at hm
  refine j_aload_n C 0 dX11_tear_0 rfl rfl ?_
  refine j_gS C f_X11_10 n_0 q_0_0 dX11_tear_1 ?_
  refine j_gI C f_X11_261 n_1 dX11_tear_4 ?_
  refine j_istore_n C [(1, .int (hI h 1 16)), (0, .ref (G.1 + 0))] dX11_tear_7 rfl (by decide) rfl ?_
  refine j_aload_n C 1 dX11_tear_8 rfl rfl ?_
  refine j_gS C f_X11_10 n_0 q_0_0 dX11_tear_9 ?_
  refine j_iconst C 0 dX11_tear_12 (by decide) ?_
  refine j_pI C f_X11_261 n_1 dX11_tear_13 ?_
  refine j_iload_n C 0 dX11_tear_16 rfl rfl ?_
  obtain rfl := Option.some.inj hm
  exact j_iret C O dX11_tear_17
theorem c_Race_tear {G : jG} {l : Launch} {h : Hp} {out : (Int32 × Hp)} (hm : s_Race_tear h = some out) : mt G l yX11_tear cX11_tear 2 (some .int) 1 70 [.ref (G.1 + 0)] h (some (.int out.1)) out.2 :=
  mt_of (by decide) (Nat.le_of_ble_eq_true rfl) _ rfl (fun X I C O => w_Race_tear C O hm)
noncomputable def s_Soundings_tellingFloat_32 (v1 : Int32) (v2 : Int32) (h : Hp) : Option ((Int32 × Int32) ⊕ Int32) :=
  some (.inl (v1, (v2 + (1 : Int32))))
noncomputable def s_Soundings_tellingFloat_4 (v1 : Int32) (v2 : Int32) (h : Hp) : Option ((Int32 × Int32) ⊕ Int32) :=
  if (hI h 1 18) ≤ v2 then
    some (.inr (v1))
  else
    ib v2 12 <| ib v1 12 <| if (hI h 77 (ix v2)) ≤ (hI h 77 (ix v1)) then
      s_Soundings_tellingFloat_32 v1 v2 h
    else
      s_Soundings_tellingFloat_32 v2 v2 h
noncomputable def s_Soundings_tellingFloat (h : Hp) : Option Int32 :=
  lp (fun q => s_Soundings_tellingFloat_4 q.1 q.2 h) (((0 : Int32)), ((1 : Int32)))
def O_Soundings_tellingFloat (G : jG) (X : jX) (h : Hp) (out : Int32) : Prop := jO G X (some .int) (some (.int out)) h
def P_Soundings_tellingFloat_4 (G : jG) (X : jX) (h : Hp) (q : Int32 × Int32) : Prop := J G X 4 [(0, .ref (G.1 + 74)), (1, .int q.1), (2, .int q.2)] [] h
def O_Soundings_tellingFloat_4 (G : jG) (X : jX) (h : Hp) (t : ((Int32 × Int32) ⊕ Int32)) : Prop := Sum.elim (P_Soundings_tellingFloat_4 G X h) (O_Soundings_tellingFloat G X h) t
theorem w_Soundings_tellingFloat_32 {G : jG} {X : jX} (C : jC G X cX5_tellingFloat 3 RX5 1 70) {v1 : Int32} {v2 : Int32} {h : Hp} {out : ((Int32 × Int32) ⊕ Int32)} (O : (O_Soundings_tellingFloat_4 G X h) out) (hm : s_Soundings_tellingFloat_32 v1 v2 h = some out) : J G X 32 [(0, .ref (G.1 + 74)), (1, .int v1), (2, .int v2)] [] h := by
  unfold s_Soundings_tellingFloat_32 at hm
  refine j_iinc C 2 [(2, .int (v2 + (1 : Int32))), (0, .ref (G.1 + 74)), (1, .int v1)] dX5_tellingFloat_32 rfl (add_lit (by decide)) (by decide) rfl ?_
  refine j_goto C 4 dX5_tellingFloat_35 (by decide) ?_
  obtain rfl := Option.some.inj hm
  refine j_sub (L' := [(0, .ref (G.1 + 74)), (1, .int v1), (2, .int (v2 + (1 : Int32)))]) [1, 2, 0] rfl ?_
  exact O
theorem w_Soundings_tellingFloat_4 {G : jG} {X : jX} (C : jC G X cX5_tellingFloat 3 RX5 1 70) {v1 : Int32} {v2 : Int32} {h : Hp} {out : ((Int32 × Int32) ⊕ Int32)} (O : (O_Soundings_tellingFloat_4 G X h) out) (hm : s_Soundings_tellingFloat_4 v1 v2 h = some out) : J G X 4 [(0, .ref (G.1 + 74)), (1, .int v1), (2, .int v2)] [] h := by
  unfold s_Soundings_tellingFloat_4 at hm
  refine j_iload_n C 2 dX5_tellingFloat_4 rfl rfl ?_
  refine j_aload_n C 0 dX5_tellingFloat_5 rfl rfl ?_
  refine j_gS C f_X5_43 n_74 q_74_0 dX5_tellingFloat_6 ?_
  refine j_gI C f_X5_70 n_1 dX5_tellingFloat_9 ?_
  refine j_if_icmpge C 38 dX5_tellingFloat_12 (by decide) hm (fun hm => ?_) (fun hm => ?_)
  · refine j_iload_n C 1 dX5_tellingFloat_38 rfl rfl ?_
    obtain rfl := Option.some.inj hm
    exact j_iret C O dX5_tellingFloat_39
  · refine j_aload_n C 0 dX5_tellingFloat_15 rfl rfl ?_
    refine j_gS C f_X5_18 n_74 q_74_4 dX5_tellingFloat_16 ?_
    refine j_iload_n C 2 dX5_tellingFloat_19 rfl rfl ?_
    refine j_iald C n_77 hm dX5_tellingFloat_20 (fun hm => ?_)
    refine j_aload_n C 0 dX5_tellingFloat_21 rfl rfl ?_
    refine j_gS C f_X5_18 n_74 q_74_4 dX5_tellingFloat_22 ?_
    refine j_iload_n C 1 dX5_tellingFloat_25 rfl rfl ?_
    refine j_iald C n_77 hm dX5_tellingFloat_26 (fun hm => ?_)
    refine j_if_icmple C 32 dX5_tellingFloat_27 (by decide) hm (fun hm => ?_) (fun hm => ?_)
    · refine j_sub (L' := [(0, .ref (G.1 + 74)), (1, .int v1), (2, .int v2)]) [0, 1, 2] rfl ?_
      exact w_Soundings_tellingFloat_32 C O hm
    · refine j_iload_n C 2 dX5_tellingFloat_30 rfl rfl ?_
      refine j_istore_n C [(1, .int v2), (0, .ref (G.1 + 74)), (2, .int v2)] dX5_tellingFloat_31 rfl (by decide) rfl ?_
      refine j_sub (L' := [(0, .ref (G.1 + 74)), (1, .int v2), (2, .int v2)]) [1, 0, 2] rfl ?_
      exact w_Soundings_tellingFloat_32 C O hm
theorem k_Soundings_tellingFloat_4 {G : jG} {X : jX} (C : jC G X cX5_tellingFloat 3 RX5 1 70) {v1 : Int32} {v2 : Int32} {h : Hp} {out : Int32} (O : (O_Soundings_tellingFloat G X h) out) (hm : lp (fun q => s_Soundings_tellingFloat_4 q.1 q.2 h) (v1, v2) = some out) : J G X 4 [(0, .ref (G.1 + 74)), (1, .int v1), (2, .int v2)] [] h :=
  lp_ok (P := P_Soundings_tellingFloat_4 G X h) (O := (O_Soundings_tellingFloat G X h)) (fun q r hm O => w_Soundings_tellingFloat_4 C O hm) hm O
theorem w_Soundings_tellingFloat {G : jG} {X : jX} (C : jC G X cX5_tellingFloat 3 RX5 1 70) {h : Hp} {out : Int32} (O : (O_Soundings_tellingFloat G X h) out) (hm : s_Soundings_tellingFloat h = some out) : J G X 0 [(0, .ref (G.1 + 74))] [] h := by
  unfold s_Soundings_tellingFloat at hm
  refine j_iconst C 0 dX5_tellingFloat_0 (by decide) ?_
  refine j_istore_n C [(1, .int ((0 : Int32))), (0, .ref (G.1 + 74))] dX5_tellingFloat_1 rfl (by decide) rfl ?_
  refine j_iconst C 1 dX5_tellingFloat_2 (by decide) ?_
  refine j_istore_n C [(2, .int ((1 : Int32))), (1, .int ((0 : Int32))), (0, .ref (G.1 + 74))] dX5_tellingFloat_3 rfl (by decide) rfl ?_
  refine j_sub (L' := [(0, .ref (G.1 + 74)), (1, .int ((0 : Int32))), (2, .int ((1 : Int32)))]) [2, 1, 0] rfl ?_
  exact k_Soundings_tellingFloat_4 C O hm
theorem c_Soundings_tellingFloat {G : jG} {l : Launch} {h : Hp} {out : Int32} (hm : s_Soundings_tellingFloat h = some out) : mt G l yX5_tellingFloat cX5_tellingFloat 3 (some .int) 1 70 [.ref (G.1 + 74)] h (some (.int out)) h :=
  mt_of (by decide) (Nat.le_of_ble_eq_true rfl) _ rfl (fun X I C O => w_Soundings_tellingFloat C O hm)
noncomputable def s_Race_tells_17 (h : Hp) : Option (Int32 × Hp) :=
  some ((-1 : Int32), h)
noncomputable def s_Race_tells (v1 : Int32) (h : Hp) : Option (Int32 × Hp) :=
  (s_Race_isMoon v1 h).bind fun u1 => if u1 = 0 then
    s_Race_tells_17 h
  else
    if (hI h 1 18) = 0 then
      s_Race_tells_17 h
    else
      (s_Soundings_freshen v1 h).bind fun u2 => (s_Soundings_tellingFloat u2).bind fun u3 => some (u3, u2)
def O_Race_tells (G : jG) (X : jX) (out : (Int32 × Hp)) : Prop := jO G X (some .int) (some (.int out.1)) out.2
theorem w_Race_tells_17 {G : jG} {X : jX} (C : jC G X cX11_tells 2 RX11 5 168) {h : Hp} {out : (Int32 × Hp)} (O : (O_Race_tells G X) out) (hm : s_Race_tells_17 h = some out) : J G X 17 [] [] h := by
  unfold s_Race_tells_17 at hm
  refine j_iconst C (-1 : Int32) dX11_tells_17 (by decide) ?_
  obtain rfl := Option.some.inj hm
  exact j_iret C O dX11_tells_18
theorem w_Race_tells {G : jG} {X : jX} (C : jC G X cX11_tells 2 RX11 5 168) {v1 : Int32} {h : Hp} {out : (Int32 × Hp)} (O : (O_Race_tells G X) out) (hm : s_Race_tells v1 h = some out) : J G X 0 [(0, .ref (G.1 + 0)), (1, .int v1)] [] h := by
  unfold s_Race_tells at hm
  refine j_iload_n C 1 dX11_tells_0 rfl rfl ?_
  refine j_cS C l_X11_125 [.int v1] [] (fun u1 => some (.int u1)) (fun _ => h) (fun u1 => [.int u1]) hm (fun l u hu => c_Race_isMoon hu) rfl (Nat.le_of_ble_eq_true rfl) rfl (Nat.le_of_ble_eq_true rfl) (Nat.le_of_ble_eq_true rfl) (fun _ => rfl) dX11_tells_1 (fun u1 hm => ?_)
  refine j_ifeq C 17 dX11_tells_4 (by decide) hm (fun hm => ?_) (fun hm => ?_)
  · refine j_sub (L' := []) [] rfl ?_
    exact w_Race_tells_17 C O hm
  · refine j_aload_n C 0 dX11_tells_7 rfl rfl ?_
    refine j_gS C f_X11_10 n_0 q_0_0 dX11_tells_8 ?_
    refine j_gI C f_X11_317 n_1 dX11_tells_11 ?_
    refine j_ifne C 19 dX11_tells_14 (by decide) hm (fun hm => ?_) (fun hm => ?_)
    · refine j_sub (L' := []) [] rfl ?_
      exact w_Race_tells_17 C O hm
    · refine j_aload_n C 0 dX11_tells_19 rfl rfl ?_
      refine j_gS C f_X11_68 n_0 q_0_8 dX11_tells_20 ?_
      refine j_iload_n C 1 dX11_tells_23 rfl rfl ?_
      refine j_cV C l_X11_329 [.int v1] [] (fun _ => none) (fun u2 => u2) (fun u2 => []) n_74 hm (fun l u hu => c_Soundings_freshen hu) rfl (Nat.le_of_ble_eq_true rfl) rfl (Nat.le_of_ble_eq_true rfl) (Nat.le_of_ble_eq_true rfl) (fun _ => rfl) dX11_tells_24 (fun u2 hm => ?_)
      refine j_aload_n C 0 dX11_tells_27 rfl rfl ?_
      refine j_gS C f_X11_68 n_0 q_0_8 dX11_tells_28 ?_
      refine j_cV C l_X11_349 [] [] (fun u3 => some (.int u3)) (fun _ => u2) (fun u3 => [.int u3]) n_74 hm (fun l u hu => c_Soundings_tellingFloat hu) rfl (Nat.le_of_ble_eq_true rfl) rfl (Nat.le_of_ble_eq_true rfl) (Nat.le_of_ble_eq_true rfl) (fun _ => rfl) dX11_tells_31 (fun u3 hm => ?_)
      obtain rfl := Option.some.inj hm
      exact j_iret C O dX11_tells_34
theorem c_Race_tells {G : jG} {l : Launch} {v1 : Int32} {h : Hp} {out : (Int32 × Hp)} (hm : s_Race_tells v1 h = some out) : mt G l yX11_tells cX11_tells 2 (some .int) 5 168 [.ref (G.1 + 0), .int v1] h (some (.int out.1)) out.2 :=
  mt_of (by decide) (Nat.le_of_ble_eq_true rfl) _ rfl (fun X I C O => w_Race_tells C O hm)
noncomputable def s_Race_terms_27 (h : Hp) : Option (Int32 × Hp) :=
  (s_Race_refuse ((-1 : Int32)) h).bind fun u1 => some (u1.1, u1.2)
noncomputable def s_Race_terms (v1 : Int32) (v2 : Int32) (h : Hp) : Option (Int32 × Hp) :=
  (s_Race_isWithin v1 ((0 : Int32)) ((10 : Int32)) h).bind fun u1 => if u1 = 0 then
    s_Race_terms_27 h
  else
    ib v1 11 <| ib v1 11 <| (s_Race_isWithin v2 ([0, 0, 1, 0, -1000, 0, 1, 0, 0, -40, 950].getD (ix v1) 0) ([50, 50, 500, 500, 1000, 60, 500, 20, 50, 40, 1050].getD (ix v1) 0) h).bind fun u2 => if u2 = 0 then
      s_Race_terms_27 h
    else
      ib v1 11 <| ib v1 11 <| (s_Race_forgetFlows (sI h 4 (ix v1) v2)).bind fun u3 => (s_Race_grant (hI h 4 (ix v1)) u3).bind fun u4 => some (u4.1, u4.2)
def O_Race_terms (G : jG) (X : jX) (out : (Int32 × Hp)) : Prop := jO G X (some .int) (some (.int out.1)) out.2
theorem w_Race_terms_27 {G : jG} {X : jX} (C : jC G X cX11_terms 4 RX11 4 134) {h : Hp} {out : (Int32 × Hp)} (O : (O_Race_terms G X) out) (hm : s_Race_terms_27 h = some out) : J G X 27 [(0, .ref (G.1 + 0))] [] h := by
  unfold s_Race_terms_27 at hm
  refine j_aload_n C 0 dX11_terms_27 rfl rfl ?_
  refine j_iconst C (-1 : Int32) dX11_terms_28 (by decide) ?_
  refine j_cV C l_X11_112 [.int ((-1 : Int32))] [] (fun u1 => some (.int u1.1)) (fun u1 => u1.2) (fun u1 => [.int u1.1]) n_0 hm (fun l u hu => c_Race_refuse hu) rfl (Nat.le_of_ble_eq_true rfl) rfl (Nat.le_of_ble_eq_true rfl) (Nat.le_of_ble_eq_true rfl) (fun _ => rfl) dX11_terms_29 (fun u1 hm => ?_)
  obtain rfl := Option.some.inj hm
  exact j_iret C O dX11_terms_32
theorem w_Race_terms {G : jG} {X : jX} (C : jC G X cX11_terms 4 RX11 4 134) {v1 : Int32} {v2 : Int32} {h : Hp} {out : (Int32 × Hp)} (O : (O_Race_terms G X) out) (hm : s_Race_terms v1 v2 h = some out) : J G X 0 [(0, .ref (G.1 + 0)), (1, .int v1), (2, .int v2)] [] h := by
  unfold s_Race_terms at hm
  refine j_iload_n C 1 dX11_terms_0 rfl rfl ?_
  refine j_iconst C 0 dX11_terms_1 (by decide) ?_
  refine j_bipush C 10 dX11_terms_2 (by decide) ?_
  refine j_cS C l_X11_102 [.int v1, .int ((0 : Int32)), .int ((10 : Int32))] [] (fun u1 => some (.int u1)) (fun _ => h) (fun u1 => [.int u1]) hm (fun l u hu => c_Race_isWithin hu) rfl (Nat.le_of_ble_eq_true rfl) rfl (Nat.le_of_ble_eq_true rfl) (Nat.le_of_ble_eq_true rfl) (fun _ => rfl) dX11_terms_4 (fun u1 hm => ?_)
  refine j_ifeq C 27 dX11_terms_7 (by decide) hm (fun hm => ?_) (fun hm => ?_)
  · refine j_sub (L' := [(0, .ref (G.1 + 0))]) [0] rfl ?_
    exact w_Race_terms_27 C O hm
  · refine j_iload_n C 2 dX11_terms_10 rfl rfl ?_
    refine j_gs C (i := 6) rfl wd_662 dX11_terms_11 ?_
    refine j_iload_n C 1 dX11_terms_14 rfl rfl ?_
    refine j_sald C (a := 6) rfl rfl hm dX11_terms_15 (fun hm => ?_)
    refine j_gs C (i := 7) rfl wd_664 dX11_terms_16 ?_
    refine j_iload_n C 1 dX11_terms_19 rfl rfl ?_
    refine j_sald C (a := 7) rfl rfl hm dX11_terms_20 (fun hm => ?_)
    refine j_cS C l_X11_102 [.int v2, .int ([0, 0, 1, 0, -1000, 0, 1, 0, 0, -40, 950].getD (ix v1) 0), .int ([50, 50, 500, 500, 1000, 60, 500, 20, 50, 40, 1050].getD (ix v1) 0)] [] (fun u2 => some (.int u2)) (fun _ => h) (fun u2 => [.int u2]) hm (fun l u hu => c_Race_isWithin hu) rfl (Nat.le_of_ble_eq_true rfl) rfl (Nat.le_of_ble_eq_true rfl) (Nat.le_of_ble_eq_true rfl) (fun _ => rfl) dX11_terms_21 (fun u2 hm => ?_)
    refine j_ifne C 33 dX11_terms_24 (by decide) hm (fun hm => ?_) (fun hm => ?_)
    · refine j_sub (L' := [(0, .ref (G.1 + 0))]) [0] rfl ?_
      exact w_Race_terms_27 C O hm
    · refine j_aload_n C 0 dX11_terms_33 rfl rfl ?_
      refine j_gS C f_X11_10 n_0 q_0_0 dX11_terms_34 ?_
      refine j_gS C f_X11_148 n_1 q_1_2 dX11_terms_37 ?_
      refine j_iload_n C 1 dX11_terms_40 rfl rfl ?_
      refine j_iald C n_4 hm dX11_terms_41 (fun hm => ?_)
      refine j_istore_n C [(3, .int (hI h 4 (ix v1))), (0, .ref (G.1 + 0)), (1, .int v1), (2, .int v2)] dX11_terms_42 rfl (by decide) rfl ?_
      refine j_aload_n C 1 dX11_terms_43 rfl rfl ?_
      refine j_gS C f_X11_10 n_0 q_0_0 dX11_terms_44 ?_
      refine j_gS C f_X11_148 n_1 q_1_2 dX11_terms_47 ?_
      refine j_iload_n C 2 dX11_terms_50 rfl rfl ?_
      refine j_iload_n C 3 dX11_terms_51 rfl rfl ?_
      refine j_iast C n_4 hm dX11_terms_52 (fun hm => ?_)
      refine j_aload_n C 1 dX11_terms_53 rfl rfl ?_
      refine j_cV C l_X11_151 [] [] (fun _ => none) (fun u3 => u3) (fun u3 => []) n_0 hm (fun l u hu => c_Race_forgetFlows hu) rfl (Nat.le_of_ble_eq_true rfl) rfl (Nat.le_of_ble_eq_true rfl) (Nat.le_of_ble_eq_true rfl) (fun _ => rfl) dX11_terms_54 (fun u3 hm => ?_)
      refine j_aload_n C 1 dX11_terms_57 rfl rfl ?_
      refine j_iload_n C 0 dX11_terms_58 rfl rfl ?_
      refine j_cV C l_X11_122 [.int (hI h 4 (ix v1))] [] (fun u4 => some (.int u4.1)) (fun u4 => u4.2) (fun u4 => [.int u4.1]) n_0 hm (fun l u hu => c_Race_grant hu) rfl (Nat.le_of_ble_eq_true rfl) rfl (Nat.le_of_ble_eq_true rfl) (Nat.le_of_ble_eq_true rfl) (fun _ => rfl) dX11_terms_59 (fun u4 hm => ?_)
      obtain rfl := Option.some.inj hm
      exact j_iret C O dX11_terms_62
theorem c_Race_terms {G : jG} {l : Launch} {v1 : Int32} {v2 : Int32} {h : Hp} {out : (Int32 × Hp)} (hm : s_Race_terms v1 v2 h = some out) : mt G l yX11_terms cX11_terms 4 (some .int) 4 134 [.ref (G.1 + 0), .int v1, .int v2] h (some (.int out.1)) out.2 :=
  mt_of (by decide) (Nat.le_of_ble_eq_true rfl) _ rfl (fun X I C O => w_Race_terms C O hm)
