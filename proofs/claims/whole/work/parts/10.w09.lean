noncomputable def s_Mod_flow (v1 : Int32) (h : Hp) : Option (Int32 × Hp) :=
  (s_Mod_isMinute v1 h).bind fun u1 => if u1 = 0 then
    some ((-100000 : Int32), h)
  else
    (s_Mod_looks h).bind fun u2 => ib v1 1440 <| some (hI u2 97 (ix v1), u2)
def O_Mod_flow (G : jG) (X : jX) (out : (Int32 × Hp)) : Prop := jO G X (some .int) (some (.int out.1)) out.2
theorem w_Mod_flow {G : jG} {X : jX} (C : jC G X cX12_flow 2 RX12 179 4679) {v1 : Int32} {h : Hp} {out : (Int32 × Hp)} (O : (O_Mod_flow G X) out) (hm : s_Mod_flow v1 h = some out) : J G X 0 [(0, .ref (G.1 + 84)), (1, .int v1)] [] h := by
  unfold s_Mod_flow at hm
  refine j_iload_n C 1 dX12_flow_0 rfl rfl ?_
  refine j_cS C l_X12_280 [.int v1] [] (fun u1 => some (.int u1)) (fun _ => h) (fun u1 => [.int u1]) hm (fun l u hu => c_Mod_isMinute hu) rfl (Nat.le_of_ble_eq_true rfl) rfl (Nat.le_of_ble_eq_true rfl) (Nat.le_of_ble_eq_true rfl) (fun _ => rfl) dX12_flow_1 (fun u1 hm => ?_)
  refine j_ifne C 11 dX12_flow_4 (by decide) hm (fun hm => ?_) (fun hm => ?_)
  · refine j_ldc_w C wd_1649 dX12_flow_7 ?_
    obtain rfl := Option.some.inj hm
    exact j_iret C O dX12_flow_10
  · refine j_aload_n C 0 dX12_flow_11 rfl rfl ?_
    refine j_cV C l_X12_321 [] [] (fun _ => none) (fun u2 => u2) (fun u2 => []) n_84 hm (fun l u hu => c_Mod_looks hu) rfl (Nat.le_of_ble_eq_true rfl) rfl (Nat.le_of_ble_eq_true rfl) (Nat.le_of_ble_eq_true rfl) (fun _ => rfl) dX12_flow_12 (fun u2 hm => ?_)
    refine j_aload_n C 0 dX12_flow_15 rfl rfl ?_
    refine j_gS C f_X12_58 n_84 q_84_26 dX12_flow_16 ?_
    refine j_iload_n C 1 dX12_flow_19 rfl rfl ?_
    refine j_iald C n_97 hm dX12_flow_20 (fun hm => ?_)
    obtain rfl := Option.some.inj hm
    exact j_iret C O dX12_flow_21
theorem c_Mod_flow {G : jG} {l : Launch} {v1 : Int32} {h : Hp} {out : (Int32 × Hp)} (hm : s_Mod_flow v1 h = some out) : mt G l yX12_flow cX12_flow 2 (some .int) 179 4679 [.ref (G.1 + 84), .int v1] h (some (.int out.1)) out.2 :=
  mt_of (by decide) (Nat.le_of_ble_eq_true rfl) _ rfl (fun X I C O => w_Mod_flow C O hm)
noncomputable def s_Mod_replaces (v1 : Int32) (v2 : Int32) (h : Hp) : Option (Int32 × Hp) :=
  ib v1 4998 <| ib v1 4998 <| (s_Mod_good (hI h 86 (ix v1)) (sI h 86 (ix v1) v2)).bind fun u1 => some (u1.1, u1.2)
def O_Mod_replaces (G : jG) (X : jX) (out : (Int32 × Hp)) : Prop := jO G X (some .int) (some (.int out.1)) out.2
theorem w_Mod_replaces {G : jG} {X : jX} (C : jC G X cX12_replaces 4 RX12 2 91) {v1 : Int32} {v2 : Int32} {h : Hp} {out : (Int32 × Hp)} (O : (O_Mod_replaces G X) out) (hm : s_Mod_replaces v1 v2 h = some out) : J G X 0 [(0, .ref (G.1 + 84)), (1, .int v1), (2, .int v2)] [] h := by
  unfold s_Mod_replaces at hm
  refine j_aload_n C 0 dX12_replaces_0 rfl rfl ?_
  refine j_gS C f_X12_20 n_84 q_84_3 dX12_replaces_1 ?_
  refine j_iload_n C 1 dX12_replaces_4 rfl rfl ?_
  refine j_iald C n_86 hm dX12_replaces_5 (fun hm => ?_)
  refine j_istore_n C [(3, .int (hI h 86 (ix v1))), (0, .ref (G.1 + 84)), (1, .int v1), (2, .int v2)] dX12_replaces_6 rfl (by decide) rfl ?_
  refine j_aload_n C 1 dX12_replaces_7 rfl rfl ?_
  refine j_gS C f_X12_20 n_84 q_84_3 dX12_replaces_8 ?_
  refine j_iload_n C 2 dX12_replaces_11 rfl rfl ?_
  refine j_iload_n C 3 dX12_replaces_12 rfl rfl ?_
  refine j_iast C n_86 hm dX12_replaces_13 (fun hm => ?_)
  refine j_aload_n C 1 dX12_replaces_14 rfl rfl ?_
  refine j_iload_n C 0 dX12_replaces_15 rfl rfl ?_
  refine j_cV C l_X12_121 [.int (hI h 86 (ix v1))] [] (fun u1 => some (.int u1.1)) (fun u1 => u1.2) (fun u1 => [.int u1.1]) n_84 hm (fun l u hu => c_Mod_good hu) rfl (Nat.le_of_ble_eq_true rfl) rfl (Nat.le_of_ble_eq_true rfl) (Nat.le_of_ble_eq_true rfl) (fun _ => rfl) dX12_replaces_16 (fun u1 hm => ?_)
  obtain rfl := Option.some.inj hm
  exact j_iret C O dX12_replaces_19
theorem c_Mod_replaces {G : jG} {l : Launch} {v1 : Int32} {v2 : Int32} {h : Hp} {out : (Int32 × Hp)} (hm : s_Mod_replaces v1 v2 h = some out) : mt G l yX12_replaces cX12_replaces 4 (some .int) 2 91 [.ref (G.1 + 84), .int v1, .int v2] h (some (.int out.1)) out.2 :=
  mt_of (by decide) (Nat.le_of_ble_eq_true rfl) _ rfl (fun X I C O => w_Mod_replaces C O hm)
noncomputable def s_Mod_force_30 (v1 : Int32) (h : Hp) : Option (Int32 × Hp) :=
  (s_Mod_replaces ((190 : Int32)) v1 h).bind fun u1 => some (u1.1, u1.2)
noncomputable def s_Mod_force (v1 : Int32) (h : Hp) : Option (Int32 × Hp) :=
  if v1 = ((-1 : Int32)) then
    s_Mod_force_30 v1 h
  else
    ib ((189 : Int32)) 4998 <| (s_Mod_lies v1 ((0 : Int32)) ((hI h 86 (ix ((189 : Int32)))) - ((1 : Int32))) h).bind fun u1 => if u1 = 0 then
      (s_Mod_refuses ((-2 : Int32)) h).bind fun u2 => some (u2.1, u2.2)
    else
      s_Mod_force_30 v1 h
def O_Mod_force (G : jG) (X : jX) (out : (Int32 × Hp)) : Prop := jO G X (some .int) (some (.int out.1)) out.2
theorem w_Mod_force_30 {G : jG} {X : jX} (C : jC G X cX12_force 2 RX12 3 114) {v1 : Int32} {h : Hp} {out : (Int32 × Hp)} (O : (O_Mod_force G X) out) (hm : s_Mod_force_30 v1 h = some out) : J G X 30 [(0, .ref (G.1 + 84)), (1, .int v1)] [] h := by
  unfold s_Mod_force_30 at hm
  refine j_aload_n C 0 dX12_force_30 rfl rfl ?_
  refine j_sipush C 190 dX12_force_31 (by decide) ?_
  refine j_iload_n C 1 dX12_force_34 rfl rfl ?_
  refine j_cV C l_X12_128 [.int ((190 : Int32)), .int v1] [] (fun u1 => some (.int u1.1)) (fun u1 => u1.2) (fun u1 => [.int u1.1]) n_84 hm (fun l u hu => c_Mod_replaces hu) rfl (Nat.le_of_ble_eq_true rfl) rfl (Nat.le_of_ble_eq_true rfl) (Nat.le_of_ble_eq_true rfl) (fun _ => rfl) dX12_force_35 (fun u1 hm => ?_)
  obtain rfl := Option.some.inj hm
  exact j_iret C O dX12_force_38
theorem w_Mod_force {G : jG} {X : jX} (C : jC G X cX12_force 2 RX12 3 114) {v1 : Int32} {h : Hp} {out : (Int32 × Hp)} (O : (O_Mod_force G X) out) (hm : s_Mod_force v1 h = some out) : J G X 0 [(0, .ref (G.1 + 84)), (1, .int v1)] [] h := by
  unfold s_Mod_force at hm
  refine j_iload_n C 1 dX12_force_0 rfl rfl ?_
  refine j_iconst C (-1 : Int32) dX12_force_1 (by decide) ?_
  refine j_if_icmpeq C 30 dX12_force_2 (by decide) hm (fun hm => ?_) (fun hm => ?_)
  · refine j_sub (L' := [(0, .ref (G.1 + 84)), (1, .int v1)]) [0, 1] rfl ?_
    exact w_Mod_force_30 C O hm
  · refine j_iload_n C 1 dX12_force_5 rfl rfl ?_
    refine j_iconst C 0 dX12_force_6 (by decide) ?_
    refine j_aload_n C 0 dX12_force_7 rfl rfl ?_
    refine j_gS C f_X12_20 n_84 q_84_3 dX12_force_8 ?_
    refine j_sipush C 189 dX12_force_11 (by decide) ?_
    refine j_iald C n_86 hm dX12_force_14 (fun hm => ?_)
    refine j_iconst C 1 dX12_force_15 (by decide) ?_
    refine j_isub C dX12_force_16 ?_
    refine j_cS C l_X12_113 [.int v1, .int ((0 : Int32)), .int ((hI h 86 (ix ((189 : Int32)))) - ((1 : Int32)))] [] (fun u1 => some (.int u1)) (fun _ => h) (fun u1 => [.int u1]) hm (fun l u hu => c_Mod_lies hu) rfl (Nat.le_of_ble_eq_true rfl) rfl (Nat.le_of_ble_eq_true rfl) (Nat.le_of_ble_eq_true rfl) (fun _ => rfl) dX12_force_17 (fun u1 hm => ?_)
    refine j_ifne C 30 dX12_force_20 (by decide) hm (fun hm => ?_) (fun hm => ?_)
    · refine j_aload_n C 0 dX12_force_23 rfl rfl ?_
      refine j_bipush C (-2 : Int32) dX12_force_24 (by decide) ?_
      refine j_cV C l_X12_117 [.int ((-2 : Int32))] [] (fun u2 => some (.int u2.1)) (fun u2 => u2.2) (fun u2 => [.int u2.1]) n_84 hm (fun l u hu => c_Mod_refuses hu) rfl (Nat.le_of_ble_eq_true rfl) rfl (Nat.le_of_ble_eq_true rfl) (Nat.le_of_ble_eq_true rfl) (fun _ => rfl) dX12_force_26 (fun u2 hm => ?_)
      obtain rfl := Option.some.inj hm
      exact j_iret C O dX12_force_29
    · refine j_sub (L' := [(0, .ref (G.1 + 84)), (1, .int v1)]) [0, 1] rfl ?_
      exact w_Mod_force_30 C O hm
theorem c_Mod_force {G : jG} {l : Launch} {v1 : Int32} {h : Hp} {out : (Int32 × Hp)} (hm : s_Mod_force v1 h = some out) : mt G l yX12_force cX12_force 2 (some .int) 3 114 [.ref (G.1 + 84), .int v1] h (some (.int out.1)) out.2 :=
  mt_of (by decide) (Nat.le_of_ble_eq_true rfl) _ rfl (fun X I C O => w_Mod_force C O hm)
noncomputable def s_Mod_foul (h : Hp) : Option Int32 :=
  some (hI h 84 6)
def O_Mod_foul (G : jG) (X : jX) (h : Hp) (out : Int32) : Prop := jO G X (some .int) (some (.int out)) h
theorem w_Mod_foul {G : jG} {X : jX} (C : jC G X cX12_foul 1 RX12 1 70) {h : Hp} {out : Int32} (O : (O_Mod_foul G X h) out) (hm : s_Mod_foul h = some out) : J G X 0 [(0, .ref (G.1 + 84))] [] h := by
  unfold s_Mod_foul at hm
  refine j_aload_n C 0 dX12_foul_0 rfl rfl ?_
  refine j_gI C f_X12_142 n_84 dX12_foul_1 ?_
  obtain rfl := Option.some.inj hm
  exact j_iret C O dX12_foul_4
theorem c_Mod_foul {G : jG} {l : Launch} {h : Hp} {out : Int32} (hm : s_Mod_foul h = some out) : mt G l yX12_foul cX12_foul 1 (some .int) 1 70 [.ref (G.1 + 84)] h (some (.int out)) h :=
  mt_of (by decide) (Nat.le_of_ble_eq_true rfl) _ rfl (fun X I C O => w_Mod_foul C O hm)
noncomputable def s_Mod_goes_28 (v2 : Int64) (s0 : Int32) (h : Hp) : Option Hp :=
  ib s0 52 <| ib s0 52 <| some (sL h 112 (ix s0) ((hL h 112 (ix s0)) + v2))
noncomputable def s_Mod_goes_27 (v1 : Int32) (v2 : Int64) (h : Hp) : Option Hp :=
  s_Mod_goes_28 v2 v1 h
noncomputable def s_Mod_goes (v1 : Int32) (v2 : Int64) (h : Hp) : Option Hp :=
  if v1 < 0 then
    s_Mod_goes_27 v1 v2 h
  else
    if ((50 : Int32)) ≤ v1 then
      s_Mod_goes_27 v1 v2 h
    else
      (s_Mod_kindOf v1 h).bind fun u1 => if u1 = 0 then
        s_Mod_goes_28 v2 ((51 : Int32)) h
      else
        s_Mod_goes_27 v1 v2 h
def O_Mod_goes (G : jG) (X : jX) (out : Hp) : Prop := jO G X (none) none out
theorem w_Mod_goes_28 {G : jG} {X : jX} (C : jC G X cX12_goes 4 RX12 2 91) {v2 : Int64} {s0 : Int32} {h : Hp} {out : Hp} (O : (O_Mod_goes G X) out) (hm : s_Mod_goes_28 v2 s0 h = some out) : J G X 28 [(2, .long v2)] [.int s0, .ref (G.1 + 112)] h := by
  unfold s_Mod_goes_28 at hm
  refine j_dup2_11 C dX12_goes_28 rfl rfl ?_
  refine j_lald C n_112 hm dX12_goes_29 (fun hm => ?_)
  refine j_lload_n C 0 dX12_goes_30 rfl rfl ?_
  refine j_ladd C dX12_goes_31 ?_
  refine j_last C n_112 hm dX12_goes_32 (fun hm => ?_)
  obtain rfl := Option.some.inj hm
  exact j_vret C O dX12_goes_33
theorem w_Mod_goes_27 {G : jG} {X : jX} (C : jC G X cX12_goes 4 RX12 2 91) {v1 : Int32} {v2 : Int64} {h : Hp} {out : Hp} (O : (O_Mod_goes G X) out) (hm : s_Mod_goes_27 v1 v2 h = some out) : J G X 27 [(1, .int v1), (2, .long v2)] [.ref (G.1 + 112)] h := by
  unfold s_Mod_goes_27 at hm
  refine j_iload_n C 0 dX12_goes_27 rfl rfl ?_
  refine j_sub (L' := [(2, .long v2)]) [1] rfl ?_
  exact w_Mod_goes_28 C O hm
theorem w_Mod_goes {G : jG} {X : jX} (C : jC G X cX12_goes 4 RX12 2 91) {v1 : Int32} {v2 : Int64} {h : Hp} {out : Hp} (O : (O_Mod_goes G X) out) (hm : s_Mod_goes v1 v2 h = some out) : J G X 0 [(0, .ref (G.1 + 84)), (1, .int v1), (2, .long v2)] [] h := by
  unfold s_Mod_goes at hm
  refine j_aload_n C 0 dX12_goes_0 rfl rfl ?_
  refine j_gS C f_X12_107 n_84 q_84_49 dX12_goes_1 ?_
  refine j_iload_n C 1 dX12_goes_4 rfl rfl ?_
  refine j_iflt C 27 dX12_goes_5 (by decide) hm (fun hm => ?_) (fun hm => ?_)
  · refine j_sub (L' := [(1, .int v1), (2, .long v2)]) [1, 2] rfl ?_
    exact w_Mod_goes_27 C O hm
  · refine j_iload_n C 1 dX12_goes_8 rfl rfl ?_
    refine j_bipush C 50 dX12_goes_9 (by decide) ?_
    refine j_if_icmpge C 27 dX12_goes_11 (by decide) hm (fun hm => ?_) (fun hm => ?_)
    · refine j_sub (L' := [(1, .int v1), (2, .long v2)]) [1, 2] rfl ?_
      exact w_Mod_goes_27 C O hm
    · refine j_aload_n C 0 dX12_goes_14 rfl rfl ?_
      refine j_iload_n C 1 dX12_goes_15 rfl rfl ?_
      refine j_cV C l_X12_343 [.int v1] [.ref (G.1 + 112)] (fun u1 => some (.int u1)) (fun _ => h) (fun u1 => [.int u1, .ref (G.1 + 112)]) n_84 hm (fun l u hu => c_Mod_kindOf hu) rfl (Nat.le_of_ble_eq_true rfl) rfl (Nat.le_of_ble_eq_true rfl) (Nat.le_of_ble_eq_true rfl) (fun _ => rfl) dX12_goes_16 (fun u1 hm => ?_)
      refine j_ifne C 27 dX12_goes_19 (by decide) hm (fun hm => ?_) (fun hm => ?_)
      · refine j_bipush C 51 dX12_goes_22 (by decide) ?_
        refine j_goto C 28 dX12_goes_24 (by decide) ?_
        refine j_sub (L' := [(2, .long v2)]) [2] rfl ?_
        exact w_Mod_goes_28 C O hm
      · refine j_sub (L' := [(1, .int v1), (2, .long v2)]) [1, 2] rfl ?_
        exact w_Mod_goes_27 C O hm
theorem c_Mod_goes {G : jG} {l : Launch} {v1 : Int32} {v2 : Int64} {h : Hp} {out : Hp} (hm : s_Mod_goes v1 v2 h = some out) : mt G l yX12_goes cX12_goes 4 (none) 2 91 [.ref (G.1 + 84), .int v1, .long v2] h none out :=
  mt_of (by decide) (Nat.le_of_ble_eq_true rfl) _ rfl (fun X I C O => w_Mod_goes C O hm)
noncomputable def s_Mod_isHigh_67 (v1 : Int32) (v3 : Int32) (s0 : Int32) (h : Hp) : Option ((Int32 × Int32 × Int32) ⊕ Int32) :=
  some (.inl (v1, s0, (v3 + (1 : Int32))))
noncomputable def s_Mod_isHigh_66 (v1 : Int32) (v3 : Int32) (h : Hp) : Option ((Int32 × Int32 × Int32) ⊕ Int32) :=
  s_Mod_isHigh_67 v1 v3 ((0 : Int32)) h
noncomputable def s_Mod_isHigh_18 (v1 : Int32) (v2 : Int32) (v3 : Int32) (h : Hp) : Option ((Int32 × Int32 × Int32) ⊕ Int32) :=
  if ((60 : Int32)) < v3 then
    bz v2 <| some (.inr (v2))
  else
    if v2 = 0 then
      s_Mod_isHigh_66 v1 v3 h
    else
      ib v1 1440 <| ib (v1 - v3) 1440 <| if (hI h 110 (ix v1)) ≤ (hI h 110 (ix (v1 - v3))) then
        s_Mod_isHigh_66 v1 v3 h
      else
        ib v1 1440 <| ib (v1 + v3) 1440 <| if (hI h 110 (ix v1)) < (hI h 110 (ix (v1 + v3))) then
          s_Mod_isHigh_66 v1 v3 h
        else
          s_Mod_isHigh_67 v1 v3 ((1 : Int32)) h
noncomputable def s_Mod_isHigh (v1 : Int32) (h : Hp) : Option Int32 :=
  (s_Mod_lies v1 ((60 : Int32)) ((1379 : Int32)) h).bind fun u1 => if u1 = 0 then
    some ((0 : Int32))
  else
    lp (fun q => s_Mod_isHigh_18 q.1 q.2.1 q.2.2 h) (v1, ((1 : Int32)), ((1 : Int32)))
def O_Mod_isHigh (G : jG) (X : jX) (h : Hp) (out : Int32) : Prop := jO G X (some .boolean) (some (.int out)) h
def P_Mod_isHigh_18 (G : jG) (X : jX) (h : Hp) (q : Int32 × Int32 × Int32) : Prop := J G X 18 [(0, .ref (G.1 + 84)), (1, .int q.1), (2, .int q.2.1), (3, .int q.2.2)] [] h
def O_Mod_isHigh_18 (G : jG) (X : jX) (h : Hp) (t : ((Int32 × Int32 × Int32) ⊕ Int32)) : Prop := Sum.elim (P_Mod_isHigh_18 G X h) (O_Mod_isHigh G X h) t
theorem w_Mod_isHigh_67 {G : jG} {X : jX} (C : jC G X cX12_isHigh 4 RX12 2 92) {v1 : Int32} {v3 : Int32} {s0 : Int32} {h : Hp} {out : ((Int32 × Int32 × Int32) ⊕ Int32)} (O : (O_Mod_isHigh_18 G X h) out) (hm : s_Mod_isHigh_67 v1 v3 s0 h = some out) : J G X 67 [(0, .ref (G.1 + 84)), (1, .int v1), (3, .int v3)] [.int s0] h := by
  unfold s_Mod_isHigh_67 at hm
  refine j_istore_n C [(2, .int s0), (0, .ref (G.1 + 84)), (1, .int v1), (3, .int v3)] dX12_isHigh_67 rfl (by decide) rfl ?_
  refine j_iinc C 3 [(3, .int (v3 + (1 : Int32))), (2, .int s0), (0, .ref (G.1 + 84)), (1, .int v1)] dX12_isHigh_68 rfl (add_lit (by decide)) (by decide) rfl ?_
  refine j_goto C 18 dX12_isHigh_71 (by decide) ?_
  obtain rfl := Option.some.inj hm
  refine j_sub (L' := [(0, .ref (G.1 + 84)), (1, .int v1), (2, .int s0), (3, .int (v3 + (1 : Int32)))]) [2, 3, 1, 0] rfl ?_
  exact O
theorem w_Mod_isHigh_66 {G : jG} {X : jX} (C : jC G X cX12_isHigh 4 RX12 2 92) {v1 : Int32} {v3 : Int32} {h : Hp} {out : ((Int32 × Int32 × Int32) ⊕ Int32)} (O : (O_Mod_isHigh_18 G X h) out) (hm : s_Mod_isHigh_66 v1 v3 h = some out) : J G X 66 [(0, .ref (G.1 + 84)), (1, .int v1), (3, .int v3)] [] h := by
  unfold s_Mod_isHigh_66 at hm
  refine j_iconst C 0 dX12_isHigh_66 (by decide) ?_
  refine j_sub (L' := [(0, .ref (G.1 + 84)), (1, .int v1), (3, .int v3)]) [0, 1, 2] rfl ?_
  exact w_Mod_isHigh_67 C O hm
theorem w_Mod_isHigh_18 {G : jG} {X : jX} (C : jC G X cX12_isHigh 4 RX12 2 92) {v1 : Int32} {v2 : Int32} {v3 : Int32} {h : Hp} {out : ((Int32 × Int32 × Int32) ⊕ Int32)} (O : (O_Mod_isHigh_18 G X h) out) (hm : s_Mod_isHigh_18 v1 v2 v3 h = some out) : J G X 18 [(0, .ref (G.1 + 84)), (1, .int v1), (2, .int v2), (3, .int v3)] [] h := by
  unfold s_Mod_isHigh_18 at hm
  refine j_iload_n C 3 dX12_isHigh_18 rfl rfl ?_
  refine j_bipush C 60 dX12_isHigh_19 (by decide) ?_
  refine j_if_icmpgt C 74 dX12_isHigh_21 (by decide) hm (fun hm => ?_) (fun hm => ?_)
  · refine j_iload_n C 2 dX12_isHigh_74 rfl rfl ?_
    obtain ⟨cz, hm⟩ := bz_inv hm
    obtain rfl := Option.some.inj hm
    exact j_zret C O cz dX12_isHigh_75
  · refine j_iload_n C 2 dX12_isHigh_24 rfl rfl ?_
    refine j_ifeq C 66 dX12_isHigh_25 (by decide) hm (fun hm => ?_) (fun hm => ?_)
    · refine j_sub (L' := [(0, .ref (G.1 + 84)), (1, .int v1), (3, .int v3)]) [0, 1, 3] rfl ?_
      exact w_Mod_isHigh_66 C O hm
    · refine j_aload_n C 0 dX12_isHigh_28 rfl rfl ?_
      refine j_gS C f_X12_100 n_84 q_84_47 dX12_isHigh_29 ?_
      refine j_iload_n C 1 dX12_isHigh_32 rfl rfl ?_
      refine j_iald C n_110 hm dX12_isHigh_33 (fun hm => ?_)
      refine j_aload_n C 0 dX12_isHigh_34 rfl rfl ?_
      refine j_gS C f_X12_100 n_84 q_84_47 dX12_isHigh_35 ?_
      refine j_iload_n C 1 dX12_isHigh_38 rfl rfl ?_
      refine j_iload_n C 3 dX12_isHigh_39 rfl rfl ?_
      refine j_isub C dX12_isHigh_40 ?_
      refine j_iald C n_110 hm dX12_isHigh_41 (fun hm => ?_)
      refine j_if_icmple C 66 dX12_isHigh_42 (by decide) hm (fun hm => ?_) (fun hm => ?_)
      · refine j_sub (L' := [(0, .ref (G.1 + 84)), (1, .int v1), (3, .int v3)]) [0, 1, 3] rfl ?_
        exact w_Mod_isHigh_66 C O hm
      · refine j_aload_n C 0 dX12_isHigh_45 rfl rfl ?_
        refine j_gS C f_X12_100 n_84 q_84_47 dX12_isHigh_46 ?_
        refine j_iload_n C 1 dX12_isHigh_49 rfl rfl ?_
        refine j_iald C n_110 hm dX12_isHigh_50 (fun hm => ?_)
        refine j_aload_n C 0 dX12_isHigh_51 rfl rfl ?_
        refine j_gS C f_X12_100 n_84 q_84_47 dX12_isHigh_52 ?_
        refine j_iload_n C 1 dX12_isHigh_55 rfl rfl ?_
        refine j_iload_n C 3 dX12_isHigh_56 rfl rfl ?_
        refine j_iadd C dX12_isHigh_57 ?_
        refine j_iald C n_110 hm dX12_isHigh_58 (fun hm => ?_)
        refine j_if_icmplt C 66 dX12_isHigh_59 (by decide) hm (fun hm => ?_) (fun hm => ?_)
        · refine j_sub (L' := [(0, .ref (G.1 + 84)), (1, .int v1), (3, .int v3)]) [0, 1, 3] rfl ?_
          exact w_Mod_isHigh_66 C O hm
        · refine j_iconst C 1 dX12_isHigh_62 (by decide) ?_
          refine j_goto C 67 dX12_isHigh_63 (by decide) ?_
          refine j_sub (L' := [(0, .ref (G.1 + 84)), (1, .int v1), (3, .int v3)]) [0, 1, 3] rfl ?_
          exact w_Mod_isHigh_67 C O hm
theorem k_Mod_isHigh_18 {G : jG} {X : jX} (C : jC G X cX12_isHigh 4 RX12 2 92) {v1 : Int32} {v2 : Int32} {v3 : Int32} {h : Hp} {out : Int32} (O : (O_Mod_isHigh G X h) out) (hm : lp (fun q => s_Mod_isHigh_18 q.1 q.2.1 q.2.2 h) (v1, v2, v3) = some out) : J G X 18 [(0, .ref (G.1 + 84)), (1, .int v1), (2, .int v2), (3, .int v3)] [] h :=
  lp_ok (P := P_Mod_isHigh_18 G X h) (O := (O_Mod_isHigh G X h)) (fun q r hm O => w_Mod_isHigh_18 C O hm) hm O
theorem w_Mod_isHigh {G : jG} {X : jX} (C : jC G X cX12_isHigh 4 RX12 2 92) {v1 : Int32} {h : Hp} {out : Int32} (O : (O_Mod_isHigh G X h) out) (hm : s_Mod_isHigh v1 h = some out) : J G X 0 [(0, .ref (G.1 + 84)), (1, .int v1)] [] h := by
  unfold s_Mod_isHigh at hm
  refine j_iload_n C 1 dX12_isHigh_0 rfl rfl ?_
  refine j_bipush C 60 dX12_isHigh_1 (by decide) ?_
  refine j_sipush C 1379 dX12_isHigh_3 (by decide) ?_
  refine j_cS C l_X12_113 [.int v1, .int ((60 : Int32)), .int ((1379 : Int32))] [] (fun u1 => some (.int u1)) (fun _ => h) (fun u1 => [.int u1]) hm (fun l u hu => c_Mod_lies hu) rfl (Nat.le_of_ble_eq_true rfl) rfl (Nat.le_of_ble_eq_true rfl) (Nat.le_of_ble_eq_true rfl) (fun _ => rfl) dX12_isHigh_6 (fun u1 hm => ?_)
  refine j_ifne C 14 dX12_isHigh_9 (by decide) hm (fun hm => ?_) (fun hm => ?_)
  · refine j_iconst C 0 dX12_isHigh_12 (by decide) ?_
    obtain rfl := Option.some.inj hm
    exact j_zret C O (by decide) dX12_isHigh_13
  · refine j_iconst C 1 dX12_isHigh_14 (by decide) ?_
    refine j_istore_n C [(2, .int ((1 : Int32))), (0, .ref (G.1 + 84)), (1, .int v1)] dX12_isHigh_15 rfl (by decide) rfl ?_
    refine j_iconst C 1 dX12_isHigh_16 (by decide) ?_
    refine j_istore_n C [(3, .int ((1 : Int32))), (2, .int ((1 : Int32))), (0, .ref (G.1 + 84)), (1, .int v1)] dX12_isHigh_17 rfl (by decide) rfl ?_
    refine j_sub (L' := [(0, .ref (G.1 + 84)), (1, .int v1), (2, .int ((1 : Int32))), (3, .int ((1 : Int32)))]) [2, 3, 1, 0] rfl ?_
    exact k_Mod_isHigh_18 C O hm
theorem c_Mod_isHigh {G : jG} {l : Launch} {v1 : Int32} {h : Hp} {out : Int32} (hm : s_Mod_isHigh v1 h = some out) : mt G l yX12_isHigh cX12_isHigh 4 (some .boolean) 2 92 [.ref (G.1 + 84), .int v1] h (some (.int out)) h :=
  mt_of (by decide) (Nat.le_of_ble_eq_true rfl) _ rfl (fun X I C O => w_Mod_isHigh C O hm)
noncomputable def s_Mod_highs_69 (v1 : Int32) (v2 : Int32) (s0 : Int32) (s1 : Int32) (h : Hp) : Option ((Int32 × Int32 × Hp) ⊕ (Int32 × Hp)) :=
  ib s1 1440 <| some (.inl (v1, (v2 + (1 : Int32)), (sI h 109 (ix s1) s0)))
noncomputable def s_Mod_highs_52 (v1 : Int32) (v2 : Int32) (h : Hp) : Option ((Int32 × Int32 × Hp) ⊕ (Int32 × Hp)) :=
  if v1 = ((-1 : Int32)) then
    s_Mod_highs_69 v1 v2 ((-1 : Int32)) v2 h
  else
    s_Mod_highs_69 v1 v2 (v2 - v1) v2 h
noncomputable def s_Mod_highs_86 (s0 : Int32) (h : Hp) : Option (Int32 × Hp) :=
  bz s0 <| some (s0, h)
noncomputable def s_Mod_highs_35 (v1 : Int32) (v2 : Int32) (h : Hp) : Option ((Int32 × Int32 × Hp) ⊕ (Int32 × Hp)) :=
  if ((1440 : Int32)) ≤ v2 then
    if v1 = ((-1 : Int32)) then
      inr (s_Mod_highs_86 ((0 : Int32)) h)
    else
      inr (s_Mod_highs_86 ((1 : Int32)) h)
  else
    (s_Mod_isHigh v2 h).bind fun u1 => if u1 = 0 then
      s_Mod_highs_52 v1 v2 h
    else
      s_Mod_highs_52 v2 v2 h
noncomputable def s_Mod_highs_6 (v1 : Int32) (h : Hp) : Option ((Int32 × Hp) ⊕ (Int32 × Hp)) :=
  if ((1440 : Int32)) ≤ v1 then
    inr (lp (fun q => s_Mod_highs_35 q.1 q.2.1 q.2.2) (((-1 : Int32)), ((0 : Int32)), h))
  else
    (s_Mod_level ((0 : Int32)) v1 h).bind fun u1 => ib v1 1440 <| some (.inl ((v1 + (1 : Int32)), (sI h 110 (ix v1) u1)))
noncomputable def s_Mod_highs (h : Hp) : Option (Int32 × Hp) :=
  (s_Mod_looks h).bind fun u1 => lp (fun q => s_Mod_highs_6 q.1 q.2) (((0 : Int32)), u1)
def O_Mod_highs (G : jG) (X : jX) (out : (Int32 × Hp)) : Prop := jO G X (some .boolean) (some (.int out.1)) out.2
def P_Mod_highs_6 (G : jG) (X : jX) (q : Int32 × Hp) : Prop := J G X 6 [(0, .ref (G.1 + 84)), (1, .int q.1)] [] q.2
def O_Mod_highs_6 (G : jG) (X : jX) (t : ((Int32 × Hp) ⊕ (Int32 × Hp))) : Prop := Sum.elim (P_Mod_highs_6 G X) (O_Mod_highs G X) t
def P_Mod_highs_35 (G : jG) (X : jX) (q : Int32 × Int32 × Hp) : Prop := J G X 35 [(0, .ref (G.1 + 84)), (1, .int q.1), (2, .int q.2.1)] [] q.2.2
def O_Mod_highs_35 (G : jG) (X : jX) (t : ((Int32 × Int32 × Hp) ⊕ (Int32 × Hp))) : Prop := Sum.elim (P_Mod_highs_35 G X) (O_Mod_highs G X) t
theorem w_Mod_highs_69 {G : jG} {X : jX} (C : jC G X cX12_highs 3 RX12 179 4679) {v1 : Int32} {v2 : Int32} {s0 : Int32} {s1 : Int32} {h : Hp} {out : ((Int32 × Int32 × Hp) ⊕ (Int32 × Hp))} (O : (O_Mod_highs_35 G X) out) (hm : s_Mod_highs_69 v1 v2 s0 s1 h = some out) : J G X 69 [(0, .ref (G.1 + 84)), (1, .int v1), (2, .int v2)] [.int s0, .int s1, .ref (G.1 + 109)] h := by
  unfold s_Mod_highs_69 at hm
  refine j_iast C n_109 hm dX12_highs_69 (fun hm => ?_)
  refine j_iinc C 2 [(2, .int (v2 + (1 : Int32))), (0, .ref (G.1 + 84)), (1, .int v1)] dX12_highs_70 rfl (add_lit (by decide)) (by decide) rfl ?_
  refine j_goto C 35 dX12_highs_73 (by decide) ?_
  obtain rfl := Option.some.inj hm
  refine j_sub (L' := [(0, .ref (G.1 + 84)), (1, .int v1), (2, .int (v2 + (1 : Int32)))]) [1, 2, 0] rfl ?_
  exact O
theorem w_Mod_highs_52 {G : jG} {X : jX} (C : jC G X cX12_highs 3 RX12 179 4679) {v1 : Int32} {v2 : Int32} {h : Hp} {out : ((Int32 × Int32 × Hp) ⊕ (Int32 × Hp))} (O : (O_Mod_highs_35 G X) out) (hm : s_Mod_highs_52 v1 v2 h = some out) : J G X 52 [(0, .ref (G.1 + 84)), (1, .int v1), (2, .int v2)] [] h := by
  unfold s_Mod_highs_52 at hm
  refine j_aload_n C 0 dX12_highs_52 rfl rfl ?_
  refine j_gS C f_X12_97 n_84 q_84_46 dX12_highs_53 ?_
  refine j_iload_n C 2 dX12_highs_56 rfl rfl ?_
  refine j_iload_n C 1 dX12_highs_57 rfl rfl ?_
  refine j_iconst C (-1 : Int32) dX12_highs_58 (by decide) ?_
  refine j_if_icmpne C 66 dX12_highs_59 (by decide) hm (fun hm => ?_) (fun hm => ?_)
  · refine j_iconst C (-1 : Int32) dX12_highs_62 (by decide) ?_
    refine j_goto C 69 dX12_highs_63 (by decide) ?_
    refine j_sub (L' := [(0, .ref (G.1 + 84)), (1, .int v1), (2, .int v2)]) [0, 1, 2] rfl ?_
    exact w_Mod_highs_69 C O hm
  · refine j_iload_n C 2 dX12_highs_66 rfl rfl ?_
    refine j_iload_n C 1 dX12_highs_67 rfl rfl ?_
    refine j_isub C dX12_highs_68 ?_
    refine j_sub (L' := [(0, .ref (G.1 + 84)), (1, .int v1), (2, .int v2)]) [0, 1, 2] rfl ?_
    exact w_Mod_highs_69 C O hm
theorem w_Mod_highs_86 {G : jG} {X : jX} (C : jC G X cX12_highs 3 RX12 179 4679) {s0 : Int32} {h : Hp} {out : (Int32 × Hp)} (O : (O_Mod_highs G X) out) (hm : s_Mod_highs_86 s0 h = some out) : J G X 86 [] [.int s0] h := by
  unfold s_Mod_highs_86 at hm
  obtain ⟨cz, hm⟩ := bz_inv hm
  obtain rfl := Option.some.inj hm
  exact j_zret C O cz dX12_highs_86
theorem w_Mod_highs_35 {G : jG} {X : jX} (C : jC G X cX12_highs 3 RX12 179 4679) {v1 : Int32} {v2 : Int32} {h : Hp} {out : ((Int32 × Int32 × Hp) ⊕ (Int32 × Hp))} (O : (O_Mod_highs_35 G X) out) (hm : s_Mod_highs_35 v1 v2 h = some out) : J G X 35 [(0, .ref (G.1 + 84)), (1, .int v1), (2, .int v2)] [] h := by
  unfold s_Mod_highs_35 at hm
  refine j_iload_n C 2 dX12_highs_35 rfl rfl ?_
  refine j_sipush C 1440 dX12_highs_36 (by decide) ?_
  refine j_if_icmpge C 76 dX12_highs_39 (by decide) hm (fun hm => ?_) (fun hm => ?_)
  · refine j_iload_n C 1 dX12_highs_76 rfl rfl ?_
    refine j_iconst C (-1 : Int32) dX12_highs_77 (by decide) ?_
    refine j_if_icmpeq C 85 dX12_highs_78 (by decide) hm (fun hm => ?_) (fun hm => ?_)
    · refine j_iconst C 0 dX12_highs_85 (by decide) ?_
      obtain ⟨o_0, hm_0, rfl⟩ := inr_inv hm
      refine j_sub (L' := []) [] rfl ?_
      exact w_Mod_highs_86 C O hm_0
    · refine j_iconst C 1 dX12_highs_81 (by decide) ?_
      refine j_goto C 86 dX12_highs_82 (by decide) ?_
      obtain ⟨o_0, hm_0, rfl⟩ := inr_inv hm
      refine j_sub (L' := []) [] rfl ?_
      exact w_Mod_highs_86 C O hm_0
  · refine j_aload_n C 0 dX12_highs_42 rfl rfl ?_
    refine j_iload_n C 2 dX12_highs_43 rfl rfl ?_
    refine j_cV C l_X12_420 [.int v2] [] (fun u1 => some (.int u1)) (fun _ => h) (fun u1 => [.int u1]) n_84 hm (fun l u hu => c_Mod_isHigh hu) rfl (Nat.le_of_ble_eq_true rfl) rfl (Nat.le_of_ble_eq_true rfl) (Nat.le_of_ble_eq_true rfl) (fun _ => rfl) dX12_highs_44 (fun u1 hm => ?_)
    refine j_ifeq C 52 dX12_highs_47 (by decide) hm (fun hm => ?_) (fun hm => ?_)
    · refine j_sub (L' := [(0, .ref (G.1 + 84)), (1, .int v1), (2, .int v2)]) [0, 1, 2] rfl ?_
      exact w_Mod_highs_52 C O hm
    · refine j_iload_n C 2 dX12_highs_50 rfl rfl ?_
      refine j_istore_n C [(1, .int v2), (0, .ref (G.1 + 84)), (2, .int v2)] dX12_highs_51 rfl (by decide) rfl ?_
      refine j_sub (L' := [(0, .ref (G.1 + 84)), (1, .int v2), (2, .int v2)]) [1, 0, 2] rfl ?_
      exact w_Mod_highs_52 C O hm
theorem k_Mod_highs_35 {G : jG} {X : jX} (C : jC G X cX12_highs 3 RX12 179 4679) {v1 : Int32} {v2 : Int32} {h : Hp} {out : (Int32 × Hp)} (O : (O_Mod_highs G X) out) (hm : lp (fun q => s_Mod_highs_35 q.1 q.2.1 q.2.2) (v1, v2, h) = some out) : J G X 35 [(0, .ref (G.1 + 84)), (1, .int v1), (2, .int v2)] [] h :=
  lp_ok (P := P_Mod_highs_35 G X) (O := (O_Mod_highs G X)) (fun q r hm O => w_Mod_highs_35 C O hm) hm O
theorem w_Mod_highs_6 {G : jG} {X : jX} (C : jC G X cX12_highs 3 RX12 179 4679) {v1 : Int32} {h : Hp} {out : ((Int32 × Hp) ⊕ (Int32 × Hp))} (O : (O_Mod_highs_6 G X) out) (hm : s_Mod_highs_6 v1 h = some out) : J G X 6 [(0, .ref (G.1 + 84)), (1, .int v1)] [] h := by
  unfold s_Mod_highs_6 at hm
  refine j_iload_n C 1 dX12_highs_6 rfl rfl ?_
  refine j_sipush C 1440 dX12_highs_7 (by decide) ?_
  refine j_if_icmpge C 31 dX12_highs_10 (by decide) hm (fun hm => ?_) (fun hm => ?_)
  · refine j_iconst C (-1 : Int32) dX12_highs_31 (by decide) ?_
    refine j_istore_n C [(1, .int ((-1 : Int32))), (0, .ref (G.1 + 84))] dX12_highs_32 rfl (by decide) rfl ?_
    refine j_iconst C 0 dX12_highs_33 (by decide) ?_
    refine j_istore_n C [(2, .int ((0 : Int32))), (1, .int ((-1 : Int32))), (0, .ref (G.1 + 84))] dX12_highs_34 rfl (by decide) rfl ?_
    obtain ⟨o_0, hm_0, rfl⟩ := inr_inv hm
    refine j_sub (L' := [(0, .ref (G.1 + 84)), (1, .int ((-1 : Int32))), (2, .int ((0 : Int32)))]) [2, 1, 0] rfl ?_
    exact k_Mod_highs_35 C O hm_0
  · refine j_aload_n C 0 dX12_highs_13 rfl rfl ?_
    refine j_gS C f_X12_100 n_84 q_84_47 dX12_highs_14 ?_
    refine j_iload_n C 1 dX12_highs_17 rfl rfl ?_
    refine j_aload_n C 0 dX12_highs_18 rfl rfl ?_
    refine j_iconst C 0 dX12_highs_19 (by decide) ?_
    refine j_iload_n C 1 dX12_highs_20 rfl rfl ?_
    refine j_cV C l_X12_331 [.int ((0 : Int32)), .int v1] [.int v1, .ref (G.1 + 110)] (fun u1 => some (.int u1)) (fun _ => h) (fun u1 => [.int u1, .int v1, .ref (G.1 + 110)]) n_84 hm (fun l u hu => c_Mod_level hu) rfl (Nat.le_of_ble_eq_true rfl) rfl (Nat.le_of_ble_eq_true rfl) (Nat.le_of_ble_eq_true rfl) (fun _ => rfl) dX12_highs_21 (fun u1 hm => ?_)
    refine j_iast C n_110 hm dX12_highs_24 (fun hm => ?_)
    refine j_iinc C 1 [(1, .int (v1 + (1 : Int32))), (0, .ref (G.1 + 84))] dX12_highs_25 rfl (add_lit (by decide)) (by decide) rfl ?_
    refine j_goto C 6 dX12_highs_28 (by decide) ?_
    obtain rfl := Option.some.inj hm
    refine j_sub (L' := [(0, .ref (G.1 + 84)), (1, .int (v1 + (1 : Int32)))]) [1, 0] rfl ?_
    exact O
theorem k_Mod_highs_6 {G : jG} {X : jX} (C : jC G X cX12_highs 3 RX12 179 4679) {v1 : Int32} {h : Hp} {out : (Int32 × Hp)} (O : (O_Mod_highs G X) out) (hm : lp (fun q => s_Mod_highs_6 q.1 q.2) (v1, h) = some out) : J G X 6 [(0, .ref (G.1 + 84)), (1, .int v1)] [] h :=
  lp_ok (P := P_Mod_highs_6 G X) (O := (O_Mod_highs G X)) (fun q r hm O => w_Mod_highs_6 C O hm) hm O
theorem w_Mod_highs {G : jG} {X : jX} (C : jC G X cX12_highs 3 RX12 179 4679) {h : Hp} {out : (Int32 × Hp)} (O : (O_Mod_highs G X) out) (hm : s_Mod_highs h = some out) : J G X 0 [(0, .ref (G.1 + 84))] [] h := by
  unfold s_Mod_highs at hm
  refine j_aload_n C 0 dX12_highs_0 rfl rfl ?_
  refine j_cV C l_X12_321 [] [] (fun _ => none) (fun u1 => u1) (fun u1 => []) n_84 hm (fun l u hu => c_Mod_looks hu) rfl (Nat.le_of_ble_eq_true rfl) rfl (Nat.le_of_ble_eq_true rfl) (Nat.le_of_ble_eq_true rfl) (fun _ => rfl) dX12_highs_1 (fun u1 hm => ?_)
  refine j_iconst C 0 dX12_highs_4 (by decide) ?_
  refine j_istore_n C [(1, .int ((0 : Int32))), (0, .ref (G.1 + 84))] dX12_highs_5 rfl (by decide) rfl ?_
  refine j_sub (L' := [(0, .ref (G.1 + 84)), (1, .int ((0 : Int32)))]) [1, 0] rfl ?_
  exact k_Mod_highs_6 C O hm
theorem c_Mod_highs {G : jG} {l : Launch} {h : Hp} {out : (Int32 × Hp)} (hm : s_Mod_highs h = some out) : mt G l yX12_highs cX12_highs 3 (some .boolean) 179 4679 [.ref (G.1 + 84)] h (some (.int out.1)) out.2 :=
  mt_of (by decide) (Nat.le_of_ble_eq_true rfl) _ rfl (fun X I C O => w_Mod_highs C O hm)
noncomputable def s_Mod_image_17 (v1 : Int32) (v2 : Int32) (h : Hp) : Option ((Int32 × Int32 × Hp) ⊕ (Int32 × Hp)) :=
  if ((4998 : Int32)) ≤ v2 then
    ib v1 2 <| (s_Mod_good ((0 : Int32)) (sI h 88 (ix v1) (z_nz ((1 : Int32))))).bind fun u1 => some (.inr (u1.1, u1.2))
  else
    ib v2 4998 <| ib ((((4998 : Int32)) * v1) + v2) 9996 <| some (.inl (v1, (v2 + (1 : Int32)), (sI h 87 (ix ((((4998 : Int32)) * v1) + v2)) (hI h 86 (ix v2)))))
noncomputable def s_Mod_image (v1 : Int32) (h : Hp) : Option (Int32 × Hp) :=
  (s_Mod_lies v1 ((0 : Int32)) ((1 : Int32)) h).bind fun u1 => if u1 = 0 then
    (s_Mod_refuses ((-1 : Int32)) h).bind fun u2 => some (u2.1, u2.2)
  else
    lp (fun q => s_Mod_image_17 q.1 q.2.1 q.2.2) (v1, ((0 : Int32)), h)
def O_Mod_image (G : jG) (X : jX) (out : (Int32 × Hp)) : Prop := jO G X (some .int) (some (.int out.1)) out.2
def P_Mod_image_17 (G : jG) (X : jX) (q : Int32 × Int32 × Hp) : Prop := J G X 17 [(0, .ref (G.1 + 84)), (1, .int q.1), (2, .int q.2.1)] [] q.2.2
def O_Mod_image_17 (G : jG) (X : jX) (t : ((Int32 × Int32 × Hp) ⊕ (Int32 × Hp))) : Prop := Sum.elim (P_Mod_image_17 G X) (O_Mod_image G X) t
theorem w_Mod_image_17 {G : jG} {X : jX} (C : jC G X cX12_image 3 RX12 2 92) {v1 : Int32} {v2 : Int32} {h : Hp} {out : ((Int32 × Int32 × Hp) ⊕ (Int32 × Hp))} (O : (O_Mod_image_17 G X) out) (hm : s_Mod_image_17 v1 v2 h = some out) : J G X 17 [(0, .ref (G.1 + 84)), (1, .int v1), (2, .int v2)] [] h := by
  unfold s_Mod_image_17 at hm
  refine j_iload_n C 2 dX12_image_17 rfl rfl ?_
  refine j_sipush C 4998 dX12_image_18 (by decide) ?_
  refine j_if_icmpge C 48 dX12_image_21 (by decide) hm (fun hm => ?_) (fun hm => ?_)
  · refine j_aload_n C 0 dX12_image_48 rfl rfl ?_
    refine j_gS C f_X12_26 n_84 q_84_5 dX12_image_49 ?_
    refine j_iload_n C 1 dX12_image_52 rfl rfl ?_
    refine j_iconst C 1 dX12_image_53 (by decide) ?_
    refine j_zast C n_88 hm dX12_image_54 (fun hm => ?_)
    refine j_aload_n C 0 dX12_image_55 rfl rfl ?_
    refine j_iconst C 0 dX12_image_56 (by decide) ?_
    refine j_cV C l_X12_121 [.int ((0 : Int32))] [] (fun u1 => some (.int u1.1)) (fun u1 => u1.2) (fun u1 => [.int u1.1]) n_84 hm (fun l u hu => c_Mod_good hu) rfl (Nat.le_of_ble_eq_true rfl) rfl (Nat.le_of_ble_eq_true rfl) (Nat.le_of_ble_eq_true rfl) (fun _ => rfl) dX12_image_57 (fun u1 hm => ?_)
    obtain rfl := Option.some.inj hm
    exact j_iret C O dX12_image_60
  · refine j_aload_n C 0 dX12_image_24 rfl rfl ?_
    refine j_gS C f_X12_23 n_84 q_84_4 dX12_image_25 ?_
    refine j_sipush C 4998 dX12_image_28 (by decide) ?_
    refine j_iload_n C 1 dX12_image_31 rfl rfl ?_
    refine j_imul C dX12_image_32 ?_
    refine j_iload_n C 2 dX12_image_33 rfl rfl ?_
    refine j_iadd C dX12_image_34 ?_
    refine j_aload_n C 0 dX12_image_35 rfl rfl ?_
    refine j_gS C f_X12_20 n_84 q_84_3 dX12_image_36 ?_
    refine j_iload_n C 2 dX12_image_39 rfl rfl ?_
    refine j_iald C n_86 hm dX12_image_40 (fun hm => ?_)
    refine j_iast C n_87 hm dX12_image_41 (fun hm => ?_)
    refine j_iinc C 2 [(2, .int (v2 + (1 : Int32))), (0, .ref (G.1 + 84)), (1, .int v1)] dX12_image_42 rfl (add_lit (by decide)) (by decide) rfl ?_
    refine j_goto C 17 dX12_image_45 (by decide) ?_
    obtain rfl := Option.some.inj hm
    refine j_sub (L' := [(0, .ref (G.1 + 84)), (1, .int v1), (2, .int (v2 + (1 : Int32)))]) [1, 2, 0] rfl ?_
    exact O
theorem k_Mod_image_17 {G : jG} {X : jX} (C : jC G X cX12_image 3 RX12 2 92) {v1 : Int32} {v2 : Int32} {h : Hp} {out : (Int32 × Hp)} (O : (O_Mod_image G X) out) (hm : lp (fun q => s_Mod_image_17 q.1 q.2.1 q.2.2) (v1, v2, h) = some out) : J G X 17 [(0, .ref (G.1 + 84)), (1, .int v1), (2, .int v2)] [] h :=
  lp_ok (P := P_Mod_image_17 G X) (O := (O_Mod_image G X)) (fun q r hm O => w_Mod_image_17 C O hm) hm O
theorem w_Mod_image {G : jG} {X : jX} (C : jC G X cX12_image 3 RX12 2 92) {v1 : Int32} {h : Hp} {out : (Int32 × Hp)} (O : (O_Mod_image G X) out) (hm : s_Mod_image v1 h = some out) : J G X 0 [(0, .ref (G.1 + 84)), (1, .int v1)] [] h := by
  unfold s_Mod_image at hm
  refine j_iload_n C 1 dX12_image_0 rfl rfl ?_
  refine j_iconst C 0 dX12_image_1 (by decide) ?_
  refine j_iconst C 1 dX12_image_2 (by decide) ?_
  refine j_cS C l_X12_113 [.int v1, .int ((0 : Int32)), .int ((1 : Int32))] [] (fun u1 => some (.int u1)) (fun _ => h) (fun u1 => [.int u1]) hm (fun l u hu => c_Mod_lies hu) rfl (Nat.le_of_ble_eq_true rfl) rfl (Nat.le_of_ble_eq_true rfl) (Nat.le_of_ble_eq_true rfl) (fun _ => rfl) dX12_image_3 (fun u1 hm => ?_)
  refine j_ifne C 15 dX12_image_6 (by decide) hm (fun hm => ?_) (fun hm => ?_)
  · refine j_aload_n C 0 dX12_image_9 rfl rfl ?_
    refine j_iconst C (-1 : Int32) dX12_image_10 (by decide) ?_
    refine j_cV C l_X12_117 [.int ((-1 : Int32))] [] (fun u2 => some (.int u2.1)) (fun u2 => u2.2) (fun u2 => [.int u2.1]) n_84 hm (fun l u hu => c_Mod_refuses hu) rfl (Nat.le_of_ble_eq_true rfl) rfl (Nat.le_of_ble_eq_true rfl) (Nat.le_of_ble_eq_true rfl) (fun _ => rfl) dX12_image_11 (fun u2 hm => ?_)
    obtain rfl := Option.some.inj hm
    exact j_iret C O dX12_image_14
  · refine j_iconst C 0 dX12_image_15 (by decide) ?_
    refine j_istore_n C [(2, .int ((0 : Int32))), (0, .ref (G.1 + 84)), (1, .int v1)] dX12_image_16 rfl (by decide) rfl ?_
    refine j_sub (L' := [(0, .ref (G.1 + 84)), (1, .int v1), (2, .int ((0 : Int32)))]) [1, 2, 0] rfl ?_
    exact k_Mod_image_17 C O hm
theorem c_Mod_image {G : jG} {l : Launch} {v1 : Int32} {h : Hp} {out : (Int32 × Hp)} (hm : s_Mod_image v1 h = some out) : mt G l yX12_image cX12_image 3 (some .int) 2 92 [.ref (G.1 + 84), .int v1] h (some (.int out.1)) out.2 :=
  mt_of (by decide) (Nat.le_of_ble_eq_true rfl) _ rfl (fun X I C O => w_Mod_image C O hm)
noncomputable def s_Mod_isDigit_17 (s0 : Int32) (h : Hp) : Option Int32 :=
  bz s0 <| some (s0)
noncomputable def s_Mod_isDigit_16 (h : Hp) : Option Int32 :=
  s_Mod_isDigit_17 ((0 : Int32)) h
noncomputable def s_Mod_isDigit (v0 : Int32) (h : Hp) : Option Int32 :=
  if v0 < ((48 : Int32)) then
    s_Mod_isDigit_16 h
  else
    if ((57 : Int32)) < v0 then
      s_Mod_isDigit_16 h
    else
      s_Mod_isDigit_17 ((1 : Int32)) h
def O_Mod_isDigit (G : jG) (X : jX) (h : Hp) (out : Int32) : Prop := jO G X (some .boolean) (some (.int out)) h
theorem w_Mod_isDigit_17 {G : jG} {X : jX} (C : jC G X cX12_isDigit 1 RX12 1 70) {s0 : Int32} {h : Hp} {out : Int32} (O : (O_Mod_isDigit G X h) out) (hm : s_Mod_isDigit_17 s0 h = some out) : J G X 17 [] [.int s0] h := by
  unfold s_Mod_isDigit_17 at hm
  obtain ⟨cz, hm⟩ := bz_inv hm
  obtain rfl := Option.some.inj hm
  exact j_zret C O cz dX12_isDigit_17
theorem w_Mod_isDigit_16 {G : jG} {X : jX} (C : jC G X cX12_isDigit 1 RX12 1 70) {h : Hp} {out : Int32} (O : (O_Mod_isDigit G X h) out) (hm : s_Mod_isDigit_16 h = some out) : J G X 16 [] [] h := by
  unfold s_Mod_isDigit_16 at hm
  refine j_iconst C 0 dX12_isDigit_16 (by decide) ?_
  refine j_sub (L' := []) [] rfl ?_
  exact w_Mod_isDigit_17 C O hm
theorem w_Mod_isDigit {G : jG} {X : jX} (C : jC G X cX12_isDigit 1 RX12 1 70) {v0 : Int32} {h : Hp} {out : Int32} (O : (O_Mod_isDigit G X h) out) (hm : s_Mod_isDigit v0 h = some out) : J G X 0 [(0, .int v0)] [] h := by
  unfold s_Mod_isDigit at hm
  refine j_iload_n C 0 dX12_isDigit_0 rfl rfl ?_
  refine j_bipush C 48 dX12_isDigit_1 (by decide) ?_
  refine j_if_icmplt C 16 dX12_isDigit_3 (by decide) hm (fun hm => ?_) (fun hm => ?_)
  · refine j_sub (L' := []) [] rfl ?_
    exact w_Mod_isDigit_16 C O hm
  · refine j_iload_n C 0 dX12_isDigit_6 rfl rfl ?_
    refine j_bipush C 57 dX12_isDigit_7 (by decide) ?_
    refine j_if_icmpgt C 16 dX12_isDigit_9 (by decide) hm (fun hm => ?_) (fun hm => ?_)
    · refine j_sub (L' := []) [] rfl ?_
      exact w_Mod_isDigit_16 C O hm
    · refine j_iconst C 1 dX12_isDigit_12 (by decide) ?_
      refine j_goto C 17 dX12_isDigit_13 (by decide) ?_
      refine j_sub (L' := []) [] rfl ?_
      exact w_Mod_isDigit_17 C O hm
theorem c_Mod_isDigit {G : jG} {l : Launch} {v0 : Int32} {h : Hp} {out : Int32} (hm : s_Mod_isDigit v0 h = some out) : mt G l yX12_isDigit cX12_isDigit 1 (some .boolean) 1 70 [.int v0] h (some (.int out)) h :=
  mt_of (by decide) (Nat.le_of_ble_eq_true rfl) _ rfl (fun X I C O => w_Mod_isDigit C O hm)
noncomputable def s_Mod_isSmall_17 (s0 : Int32) (h : Hp) : Option Int32 :=
  bz s0 <| some (s0)
noncomputable def s_Mod_isSmall_16 (h : Hp) : Option Int32 :=
  s_Mod_isSmall_17 ((0 : Int32)) h
noncomputable def s_Mod_isSmall (v0 : Int32) (h : Hp) : Option Int32 :=
  if v0 < ((97 : Int32)) then
    s_Mod_isSmall_16 h
  else
    if ((122 : Int32)) < v0 then
      s_Mod_isSmall_16 h
    else
      s_Mod_isSmall_17 ((1 : Int32)) h
def O_Mod_isSmall (G : jG) (X : jX) (h : Hp) (out : Int32) : Prop := jO G X (some .boolean) (some (.int out)) h
theorem w_Mod_isSmall_17 {G : jG} {X : jX} (C : jC G X cX12_isSmall 1 RX12 1 70) {s0 : Int32} {h : Hp} {out : Int32} (O : (O_Mod_isSmall G X h) out) (hm : s_Mod_isSmall_17 s0 h = some out) : J G X 17 [] [.int s0] h := by
  unfold s_Mod_isSmall_17 at hm
  obtain ⟨cz, hm⟩ := bz_inv hm
  obtain rfl := Option.some.inj hm
  exact j_zret C O cz dX12_isSmall_17
theorem w_Mod_isSmall_16 {G : jG} {X : jX} (C : jC G X cX12_isSmall 1 RX12 1 70) {h : Hp} {out : Int32} (O : (O_Mod_isSmall G X h) out) (hm : s_Mod_isSmall_16 h = some out) : J G X 16 [] [] h := by
  unfold s_Mod_isSmall_16 at hm
  refine j_iconst C 0 dX12_isSmall_16 (by decide) ?_
  refine j_sub (L' := []) [] rfl ?_
  exact w_Mod_isSmall_17 C O hm
theorem w_Mod_isSmall {G : jG} {X : jX} (C : jC G X cX12_isSmall 1 RX12 1 70) {v0 : Int32} {h : Hp} {out : Int32} (O : (O_Mod_isSmall G X h) out) (hm : s_Mod_isSmall v0 h = some out) : J G X 0 [(0, .int v0)] [] h := by
  unfold s_Mod_isSmall at hm
  refine j_iload_n C 0 dX12_isSmall_0 rfl rfl ?_
  refine j_bipush C 97 dX12_isSmall_1 (by decide) ?_
  refine j_if_icmplt C 16 dX12_isSmall_3 (by decide) hm (fun hm => ?_) (fun hm => ?_)
  · refine j_sub (L' := []) [] rfl ?_
    exact w_Mod_isSmall_16 C O hm
  · refine j_iload_n C 0 dX12_isSmall_6 rfl rfl ?_
    refine j_bipush C 122 dX12_isSmall_7 (by decide) ?_
    refine j_if_icmpgt C 16 dX12_isSmall_9 (by decide) hm (fun hm => ?_) (fun hm => ?_)
    · refine j_sub (L' := []) [] rfl ?_
      exact w_Mod_isSmall_16 C O hm
    · refine j_iconst C 1 dX12_isSmall_12 (by decide) ?_
      refine j_goto C 17 dX12_isSmall_13 (by decide) ?_
      refine j_sub (L' := []) [] rfl ?_
      exact w_Mod_isSmall_17 C O hm
theorem c_Mod_isSmall {G : jG} {l : Launch} {v0 : Int32} {h : Hp} {out : Int32} (hm : s_Mod_isSmall v0 h = some out) : mt G l yX12_isSmall cX12_isSmall 1 (some .boolean) 1 70 [.int v0] h (some (.int out)) h :=
  mt_of (by decide) (Nat.le_of_ble_eq_true rfl) _ rfl (fun X I C O => w_Mod_isSmall C O hm)
noncomputable def s_Mod_isTerm_60 (v1 : Int32) (h : Hp) : Option Int32 :=
  (s_Mod_lies v1 ((0 : Int32)) ((50 : Int32)) h).bind fun u1 => bz u1 <| some (u1)
noncomputable def s_Mod_isTerm_68 (v1 : Int32) (h : Hp) : Option Int32 :=
  (s_Mod_lies v1 ((1 : Int32)) ((500 : Int32)) h).bind fun u1 => bz u1 <| some (u1)
noncomputable def s_Mod_isTerm (v0 : Int32) (v1 : Int32) (h : Hp) : Option Int32 :=
  if v0 = 0 then
    s_Mod_isTerm_60 v1 h
  else if v0 = 1 then
    s_Mod_isTerm_60 v1 h
  else if v0 = 2 then
    s_Mod_isTerm_68 v1 h
  else if v0 = 3 then
    (s_Mod_lies v1 ((0 : Int32)) ((500 : Int32)) h).bind fun u1 => bz u1 <| some (u1)
  else if v0 = 4 then
    (s_Mod_lies v1 ((-1000 : Int32)) ((1000 : Int32)) h).bind fun u2 => bz u2 <| some (u2)
  else if v0 = 5 then
    (s_Mod_lies v1 ((0 : Int32)) ((60 : Int32)) h).bind fun u3 => bz u3 <| some (u3)
  else if v0 = 6 then
    s_Mod_isTerm_68 v1 h
  else if v0 = 7 then
    (s_Mod_lies v1 ((0 : Int32)) ((20 : Int32)) h).bind fun u4 => bz u4 <| some (u4)
  else if v0 = 8 then
    s_Mod_isTerm_60 v1 h
  else if v0 = 9 then
    (s_Mod_lies v1 ((-40 : Int32)) ((40 : Int32)) h).bind fun u5 => bz u5 <| some (u5)
  else if v0 = 10 then
    (s_Mod_lies v1 ((950 : Int32)) ((1050 : Int32)) h).bind fun u6 => bz u6 <| some (u6)
  else 
    some ((0 : Int32))
def O_Mod_isTerm (G : jG) (X : jX) (h : Hp) (out : Int32) : Prop := jO G X (some .boolean) (some (.int out)) h
theorem w_Mod_isTerm_60 {G : jG} {X : jX} (C : jC G X cX12_isTerm 2 RX12 2 92) {v1 : Int32} {h : Hp} {out : Int32} (O : (O_Mod_isTerm G X h) out) (hm : s_Mod_isTerm_60 v1 h = some out) : J G X 60 [(1, .int v1)] [] h := by
  unfold s_Mod_isTerm_60 at hm
  refine j_iload_n C 0 dX12_isTerm_60 rfl rfl ?_
  refine j_iconst C 0 dX12_isTerm_61 (by decide) ?_
  refine j_bipush C 50 dX12_isTerm_62 (by decide) ?_
  refine j_cS C l_X12_113 [.int v1, .int ((0 : Int32)), .int ((50 : Int32))] [] (fun u1 => some (.int u1)) (fun _ => h) (fun u1 => [.int u1]) hm (fun l u hu => c_Mod_lies hu) rfl (Nat.le_of_ble_eq_true rfl) rfl (Nat.le_of_ble_eq_true rfl) (Nat.le_of_ble_eq_true rfl) (fun _ => rfl) dX12_isTerm_64 (fun u1 hm => ?_)
  obtain ⟨cz, hm⟩ := bz_inv hm
  obtain rfl := Option.some.inj hm
  exact j_zret C O cz dX12_isTerm_67
theorem w_Mod_isTerm_68 {G : jG} {X : jX} (C : jC G X cX12_isTerm 2 RX12 2 92) {v1 : Int32} {h : Hp} {out : Int32} (O : (O_Mod_isTerm G X h) out) (hm : s_Mod_isTerm_68 v1 h = some out) : J G X 68 [(1, .int v1)] [] h := by
  unfold s_Mod_isTerm_68 at hm
  refine j_iload_n C 0 dX12_isTerm_68 rfl rfl ?_
  refine j_iconst C 1 dX12_isTerm_69 (by decide) ?_
  refine j_sipush C 500 dX12_isTerm_70 (by decide) ?_
  refine j_cS C l_X12_113 [.int v1, .int ((1 : Int32)), .int ((500 : Int32))] [] (fun u1 => some (.int u1)) (fun _ => h) (fun u1 => [.int u1]) hm (fun l u hu => c_Mod_lies hu) rfl (Nat.le_of_ble_eq_true rfl) rfl (Nat.le_of_ble_eq_true rfl) (Nat.le_of_ble_eq_true rfl) (fun _ => rfl) dX12_isTerm_73 (fun u1 hm => ?_)
  obtain ⟨cz, hm⟩ := bz_inv hm
  obtain rfl := Option.some.inj hm
  exact j_zret C O cz dX12_isTerm_76
theorem w_Mod_isTerm {G : jG} {X : jX} (C : jC G X cX12_isTerm 2 RX12 2 92) {v0 : Int32} {v1 : Int32} {h : Hp} {out : Int32} (O : (O_Mod_isTerm G X h) out) (hm : s_Mod_isTerm v0 v1 h = some out) : J G X 0 [(0, .int v0), (1, .int v1)] [] h := by
  unfold s_Mod_isTerm at hm
  refine j_iload_n C 0 dX12_isTerm_0 rfl rfl ?_
  rcases if_inv hm with ⟨c7, hm⟩ | ⟨c7, hm⟩
  · refine j_swIn C 0 60 dX12_isTerm_1 c7 (by decide) (by decide) rfl (by decide) ?_
    refine j_sub (L' := [(1, .int v1)]) [1] rfl ?_
    exact w_Mod_isTerm_60 C O hm
  rcases if_inv hm with ⟨c8, hm⟩ | ⟨c8, hm⟩
  · refine j_swIn C 1 60 dX12_isTerm_1 c8 (by decide) (by decide) rfl (by decide) ?_
    refine j_sub (L' := [(1, .int v1)]) [1] rfl ?_
    exact w_Mod_isTerm_60 C O hm
  rcases if_inv hm with ⟨c9, hm⟩ | ⟨c9, hm⟩
  · refine j_swIn C 2 68 dX12_isTerm_1 c9 (by decide) (by decide) rfl (by decide) ?_
    refine j_sub (L' := [(1, .int v1)]) [1] rfl ?_
    exact w_Mod_isTerm_68 C O hm
  rcases if_inv hm with ⟨c10, hm⟩ | ⟨c10, hm⟩
  · refine j_swIn C 3 77 dX12_isTerm_1 c10 (by decide) (by decide) rfl (by decide) ?_
    refine j_iload_n C 1 dX12_isTerm_77 rfl rfl ?_
    refine j_iconst C 0 dX12_isTerm_78 (by decide) ?_
    refine j_sipush C 500 dX12_isTerm_79 (by decide) ?_
    refine j_cS C l_X12_113 [.int v1, .int ((0 : Int32)), .int ((500 : Int32))] [] (fun u1 => some (.int u1)) (fun _ => h) (fun u1 => [.int u1]) hm (fun l u hu => c_Mod_lies hu) rfl (Nat.le_of_ble_eq_true rfl) rfl (Nat.le_of_ble_eq_true rfl) (Nat.le_of_ble_eq_true rfl) (fun _ => rfl) dX12_isTerm_82 (fun u1 hm => ?_)
    obtain ⟨cz, hm⟩ := bz_inv hm
    obtain rfl := Option.some.inj hm
    exact j_zret C O cz dX12_isTerm_85
  rcases if_inv hm with ⟨c11, hm⟩ | ⟨c11, hm⟩
  · refine j_swIn C 4 86 dX12_isTerm_1 c11 (by decide) (by decide) rfl (by decide) ?_
    refine j_iload_n C 1 dX12_isTerm_86 rfl rfl ?_
    refine j_sipush C (-1000 : Int32) dX12_isTerm_87 (by decide) ?_
    refine j_sipush C 1000 dX12_isTerm_90 (by decide) ?_
    refine j_cS C l_X12_113 [.int v1, .int ((-1000 : Int32)), .int ((1000 : Int32))] [] (fun u2 => some (.int u2)) (fun _ => h) (fun u2 => [.int u2]) hm (fun l u hu => c_Mod_lies hu) rfl (Nat.le_of_ble_eq_true rfl) rfl (Nat.le_of_ble_eq_true rfl) (Nat.le_of_ble_eq_true rfl) (fun _ => rfl) dX12_isTerm_93 (fun u2 hm => ?_)
    obtain ⟨cz, hm⟩ := bz_inv hm
    obtain rfl := Option.some.inj hm
    exact j_zret C O cz dX12_isTerm_96
  rcases if_inv hm with ⟨c12, hm⟩ | ⟨c12, hm⟩
  · refine j_swIn C 5 97 dX12_isTerm_1 c12 (by decide) (by decide) rfl (by decide) ?_
    refine j_iload_n C 1 dX12_isTerm_97 rfl rfl ?_
    refine j_iconst C 0 dX12_isTerm_98 (by decide) ?_
    refine j_bipush C 60 dX12_isTerm_99 (by decide) ?_
    refine j_cS C l_X12_113 [.int v1, .int ((0 : Int32)), .int ((60 : Int32))] [] (fun u3 => some (.int u3)) (fun _ => h) (fun u3 => [.int u3]) hm (fun l u hu => c_Mod_lies hu) rfl (Nat.le_of_ble_eq_true rfl) rfl (Nat.le_of_ble_eq_true rfl) (Nat.le_of_ble_eq_true rfl) (fun _ => rfl) dX12_isTerm_101 (fun u3 hm => ?_)
    obtain ⟨cz, hm⟩ := bz_inv hm
    obtain rfl := Option.some.inj hm
    exact j_zret C O cz dX12_isTerm_104
  rcases if_inv hm with ⟨c13, hm⟩ | ⟨c13, hm⟩
  · refine j_swIn C 6 68 dX12_isTerm_1 c13 (by decide) (by decide) rfl (by decide) ?_
    refine j_sub (L' := [(1, .int v1)]) [1] rfl ?_
    exact w_Mod_isTerm_68 C O hm
  rcases if_inv hm with ⟨c14, hm⟩ | ⟨c14, hm⟩
  · refine j_swIn C 7 105 dX12_isTerm_1 c14 (by decide) (by decide) rfl (by decide) ?_
    refine j_iload_n C 1 dX12_isTerm_105 rfl rfl ?_
    refine j_iconst C 0 dX12_isTerm_106 (by decide) ?_
    refine j_bipush C 20 dX12_isTerm_107 (by decide) ?_
    refine j_cS C l_X12_113 [.int v1, .int ((0 : Int32)), .int ((20 : Int32))] [] (fun u4 => some (.int u4)) (fun _ => h) (fun u4 => [.int u4]) hm (fun l u hu => c_Mod_lies hu) rfl (Nat.le_of_ble_eq_true rfl) rfl (Nat.le_of_ble_eq_true rfl) (Nat.le_of_ble_eq_true rfl) (fun _ => rfl) dX12_isTerm_109 (fun u4 hm => ?_)
    obtain ⟨cz, hm⟩ := bz_inv hm
    obtain rfl := Option.some.inj hm
    exact j_zret C O cz dX12_isTerm_112
  rcases if_inv hm with ⟨c15, hm⟩ | ⟨c15, hm⟩
  · refine j_swIn C 8 60 dX12_isTerm_1 c15 (by decide) (by decide) rfl (by decide) ?_
    refine j_sub (L' := [(1, .int v1)]) [1] rfl ?_
    exact w_Mod_isTerm_60 C O hm
  rcases if_inv hm with ⟨c16, hm⟩ | ⟨c16, hm⟩
  · refine j_swIn C 9 113 dX12_isTerm_1 c16 (by decide) (by decide) rfl (by decide) ?_
    refine j_iload_n C 1 dX12_isTerm_113 rfl rfl ?_
    refine j_bipush C (-40 : Int32) dX12_isTerm_114 (by decide) ?_
    refine j_bipush C 40 dX12_isTerm_116 (by decide) ?_
    refine j_cS C l_X12_113 [.int v1, .int ((-40 : Int32)), .int ((40 : Int32))] [] (fun u5 => some (.int u5)) (fun _ => h) (fun u5 => [.int u5]) hm (fun l u hu => c_Mod_lies hu) rfl (Nat.le_of_ble_eq_true rfl) rfl (Nat.le_of_ble_eq_true rfl) (Nat.le_of_ble_eq_true rfl) (fun _ => rfl) dX12_isTerm_118 (fun u5 hm => ?_)
    obtain ⟨cz, hm⟩ := bz_inv hm
    obtain rfl := Option.some.inj hm
    exact j_zret C O cz dX12_isTerm_121
  rcases if_inv hm with ⟨c17, hm⟩ | ⟨c17, hm⟩
  · refine j_swIn C 10 122 dX12_isTerm_1 c17 (by decide) (by decide) rfl (by decide) ?_
    refine j_iload_n C 1 dX12_isTerm_122 rfl rfl ?_
    refine j_sipush C 950 dX12_isTerm_123 (by decide) ?_
    refine j_sipush C 1050 dX12_isTerm_126 (by decide) ?_
    refine j_cS C l_X12_113 [.int v1, .int ((950 : Int32)), .int ((1050 : Int32))] [] (fun u6 => some (.int u6)) (fun _ => h) (fun u6 => [.int u6]) hm (fun l u hu => c_Mod_lies hu) rfl (Nat.le_of_ble_eq_true rfl) rfl (Nat.le_of_ble_eq_true rfl) (Nat.le_of_ble_eq_true rfl) (fun _ => rfl) dX12_isTerm_129 (fun u6 hm => ?_)
    obtain ⟨cz, hm⟩ := bz_inv hm
    obtain rfl := Option.some.inj hm
    exact j_zret C O cz dX12_isTerm_132
  refine j_tableOut C 133 dX12_isTerm_1 (by have e0 := sw_ne (n := 0) c7 (by decide); have e1 := sw_ne (n := 1) c8 (by decide); have e2 := sw_ne (n := 2) c9 (by decide); have e3 := sw_ne (n := 3) c10 (by decide); have e4 := sw_ne (n := 4) c11 (by decide); have e5 := sw_ne (n := 5) c12 (by decide); have e6 := sw_ne (n := 6) c13 (by decide); have e7 := sw_ne (n := 7) c14 (by decide); have e8 := sw_ne (n := 8) c15 (by decide); have e9 := sw_ne (n := 9) c16 (by decide); have e10 := sw_ne (n := 10) c17 (by decide); omega) (by decide) ?_
  refine j_iconst C 0 dX12_isTerm_133 (by decide) ?_
  obtain rfl := Option.some.inj hm
  exact j_zret C O (by decide) dX12_isTerm_134
theorem c_Mod_isTerm {G : jG} {l : Launch} {v0 : Int32} {v1 : Int32} {h : Hp} {out : Int32} (hm : s_Mod_isTerm v0 v1 h = some out) : mt G l yX12_isTerm cX12_isTerm 2 (some .boolean) 2 92 [.int v0, .int v1] h (some (.int out)) h :=
  mt_of (by decide) (Nat.le_of_ble_eq_true rfl) _ rfl (fun X I C O => w_Mod_isTerm C O hm)
noncomputable def s_Mod_kind_33 (s0 : Int32) (h : Hp) : Option (Int32 × Hp) :=
  some (s0, h)
noncomputable def s_Mod_kind_28 (h : Hp) : Option (Int32 × Hp) :=
  (s_Mod_refuses ((-1 : Int32)) h).bind fun u1 => s_Mod_kind_33 u1.1 u1.2
noncomputable def s_Mod_kind (v1 : Int32) (v2 : Int32) (h : Hp) : Option (Int32 × Hp) :=
  (s_Mod_isCell v1 h).bind fun u1 => if u1 = 0 then
    s_Mod_kind_28 h
  else
    (s_Mod_lies v2 ((0 : Int32)) ((5 : Int32)) h).bind fun u2 => if u2 = 0 then
      s_Mod_kind_28 h
    else
      (s_Mod_replaces (((41 : Int32)) + v1) v2 h).bind fun u3 => s_Mod_kind_33 u3.1 u3.2
def O_Mod_kind (G : jG) (X : jX) (out : (Int32 × Hp)) : Prop := jO G X (some .int) (some (.int out.1)) out.2
theorem w_Mod_kind_33 {G : jG} {X : jX} (C : jC G X cX12_kind 3 RX12 3 114) {s0 : Int32} {h : Hp} {out : (Int32 × Hp)} (O : (O_Mod_kind G X) out) (hm : s_Mod_kind_33 s0 h = some out) : J G X 33 [] [.int s0] h := by
  unfold s_Mod_kind_33 at hm
  obtain rfl := Option.some.inj hm
  exact j_iret C O dX12_kind_33
theorem w_Mod_kind_28 {G : jG} {X : jX} (C : jC G X cX12_kind 3 RX12 3 114) {h : Hp} {out : (Int32 × Hp)} (O : (O_Mod_kind G X) out) (hm : s_Mod_kind_28 h = some out) : J G X 28 [(0, .ref (G.1 + 84))] [] h := by
  unfold s_Mod_kind_28 at hm
  refine j_aload_n C 0 dX12_kind_28 rfl rfl ?_
  refine j_iconst C (-1 : Int32) dX12_kind_29 (by decide) ?_
  refine j_cV C l_X12_117 [.int ((-1 : Int32))] [] (fun u1 => some (.int u1.1)) (fun u1 => u1.2) (fun u1 => [.int u1.1]) n_84 hm (fun l u hu => c_Mod_refuses hu) rfl (Nat.le_of_ble_eq_true rfl) rfl (Nat.le_of_ble_eq_true rfl) (Nat.le_of_ble_eq_true rfl) (fun _ => rfl) dX12_kind_30 (fun u1 hm => ?_)
  refine j_sub (L' := []) [] rfl ?_
  exact w_Mod_kind_33 C O hm
theorem w_Mod_kind {G : jG} {X : jX} (C : jC G X cX12_kind 3 RX12 3 114) {v1 : Int32} {v2 : Int32} {h : Hp} {out : (Int32 × Hp)} (O : (O_Mod_kind G X) out) (hm : s_Mod_kind v1 v2 h = some out) : J G X 0 [(0, .ref (G.1 + 84)), (1, .int v1), (2, .int v2)] [] h := by
  unfold s_Mod_kind at hm
  refine j_iload_n C 1 dX12_kind_0 rfl rfl ?_
  refine j_cS C l_X12_334 [.int v1] [] (fun u1 => some (.int u1)) (fun _ => h) (fun u1 => [.int u1]) hm (fun l u hu => c_Mod_isCell hu) rfl (Nat.le_of_ble_eq_true rfl) rfl (Nat.le_of_ble_eq_true rfl) (Nat.le_of_ble_eq_true rfl) (fun _ => rfl) dX12_kind_1 (fun u1 hm => ?_)
  refine j_ifeq C 28 dX12_kind_4 (by decide) hm (fun hm => ?_) (fun hm => ?_)
  · refine j_sub (L' := [(0, .ref (G.1 + 84))]) [0] rfl ?_
    exact w_Mod_kind_28 C O hm
  · refine j_iload_n C 2 dX12_kind_7 rfl rfl ?_
    refine j_iconst C 0 dX12_kind_8 (by decide) ?_
    refine j_iconst C 5 dX12_kind_9 (by decide) ?_
    refine j_cS C l_X12_113 [.int v2, .int ((0 : Int32)), .int ((5 : Int32))] [] (fun u2 => some (.int u2)) (fun _ => h) (fun u2 => [.int u2]) hm (fun l u hu => c_Mod_lies hu) rfl (Nat.le_of_ble_eq_true rfl) rfl (Nat.le_of_ble_eq_true rfl) (Nat.le_of_ble_eq_true rfl) (fun _ => rfl) dX12_kind_10 (fun u2 hm => ?_)
    refine j_ifeq C 28 dX12_kind_13 (by decide) hm (fun hm => ?_) (fun hm => ?_)
    · refine j_sub (L' := [(0, .ref (G.1 + 84))]) [0] rfl ?_
      exact w_Mod_kind_28 C O hm
    · refine j_aload_n C 0 dX12_kind_16 rfl rfl ?_
      refine j_bipush C 41 dX12_kind_17 (by decide) ?_
      refine j_iload_n C 1 dX12_kind_19 rfl rfl ?_
      refine j_iadd C dX12_kind_20 ?_
      refine j_iload_n C 2 dX12_kind_21 rfl rfl ?_
      refine j_cV C l_X12_128 [.int (((41 : Int32)) + v1), .int v2] [] (fun u3 => some (.int u3.1)) (fun u3 => u3.2) (fun u3 => [.int u3.1]) n_84 hm (fun l u hu => c_Mod_replaces hu) rfl (Nat.le_of_ble_eq_true rfl) rfl (Nat.le_of_ble_eq_true rfl) (Nat.le_of_ble_eq_true rfl) (fun _ => rfl) dX12_kind_22 (fun u3 hm => ?_)
      refine j_goto C 33 dX12_kind_25 (by decide) ?_
      refine j_sub (L' := []) [] rfl ?_
      exact w_Mod_kind_33 C O hm
theorem c_Mod_kind {G : jG} {l : Launch} {v1 : Int32} {v2 : Int32} {h : Hp} {out : (Int32 × Hp)} (hm : s_Mod_kind v1 v2 h = some out) : mt G l yX12_kind cX12_kind 3 (some .int) 3 114 [.ref (G.1 + 84), .int v1, .int v2] h (some (.int out.1)) out.2 :=
  mt_of (by decide) (Nat.le_of_ble_eq_true rfl) _ rfl (fun X I C O => w_Mod_kind C O hm)
noncomputable def s_Mod_late_66 (s0 : Int32) (h : Hp) : Option (Int32 × Hp) :=
  some (s0, h)
noncomputable def s_Mod_late_57 (h : Hp) : Option (Int32 × Hp) :=
  s_Mod_late_66 ((-100000 : Int32)) h
noncomputable def s_Mod_late (v1 : Int32) (h : Hp) : Option (Int32 × Hp) :=
  if 0 ≤ v1 then
    (s_Mod_looks h).bind fun u1 => (s_Mod_winds ((0 : Int32)) u1).bind fun u2 => (s_Mod_flows 98 ((1013 : Int32)) ((0 : Int32)) u2).bind fun u3 => (s_Mod_slackAt 97 v1 u3).bind fun u4 => (s_Mod_slackAt 98 v1 u3).bind fun u5 => if u4 < 0 then
      s_Mod_late_57 u3
    else
      if 0 ≤ u5 then
        s_Mod_late_66 (u4 - u5) u3
      else
        s_Mod_late_57 u3
  else
    some ((-100000 : Int32), h)
def O_Mod_late (G : jG) (X : jX) (out : (Int32 × Hp)) : Prop := jO G X (some .int) (some (.int out.1)) out.2
theorem w_Mod_late_66 {G : jG} {X : jX} (C : jC G X cX12_late 4 RX12 179 4679) {s0 : Int32} {h : Hp} {out : (Int32 × Hp)} (O : (O_Mod_late G X) out) (hm : s_Mod_late_66 s0 h = some out) : J G X 66 [] [.int s0] h := by
  unfold s_Mod_late_66 at hm
  obtain rfl := Option.some.inj hm
  exact j_iret C O dX12_late_66
theorem w_Mod_late_57 {G : jG} {X : jX} (C : jC G X cX12_late 4 RX12 179 4679) {h : Hp} {out : (Int32 × Hp)} (O : (O_Mod_late G X) out) (hm : s_Mod_late_57 h = some out) : J G X 57 [] [] h := by
  unfold s_Mod_late_57 at hm
  refine j_ldc_w C wd_1649 dX12_late_57 ?_
  refine j_goto C 66 dX12_late_60 (by decide) ?_
  refine j_sub (L' := []) [] rfl ?_
  exact w_Mod_late_66 C O hm
theorem w_Mod_late {G : jG} {X : jX} (C : jC G X cX12_late 4 RX12 179 4679) {v1 : Int32} {h : Hp} {out : (Int32 × Hp)} (O : (O_Mod_late G X) out) (hm : s_Mod_late v1 h = some out) : J G X 0 [(0, .ref (G.1 + 84)), (1, .int v1)] [] h := by
  unfold s_Mod_late at hm
  refine j_iload_n C 1 dX12_late_0 rfl rfl ?_
  refine j_ifge C 8 dX12_late_1 (by decide) hm (fun hm => ?_) (fun hm => ?_)
  · refine j_aload_n C 0 dX12_late_8 rfl rfl ?_
    refine j_cV C l_X12_321 [] [] (fun _ => none) (fun u1 => u1) (fun u1 => []) n_84 hm (fun l u hu => c_Mod_looks hu) rfl (Nat.le_of_ble_eq_true rfl) rfl (Nat.le_of_ble_eq_true rfl) (Nat.le_of_ble_eq_true rfl) (fun _ => rfl) dX12_late_9 (fun u1 hm => ?_)
    refine j_aload_n C 0 dX12_late_12 rfl rfl ?_
    refine j_iconst C 0 dX12_late_13 (by decide) ?_
    refine j_cV C l_X12_312 [.int ((0 : Int32))] [] (fun _ => none) (fun u2 => u2) (fun u2 => []) n_84 hm (fun l u hu => c_Mod_winds hu) rfl (Nat.le_of_ble_eq_true rfl) rfl (Nat.le_of_ble_eq_true rfl) (Nat.le_of_ble_eq_true rfl) (fun _ => rfl) dX12_late_14 (fun u2 hm => ?_)
    refine j_aload_n C 0 dX12_late_17 rfl rfl ?_
    refine j_aload_n C 0 dX12_late_18 rfl rfl ?_
    refine j_gS C f_X12_61 n_84 q_84_27 dX12_late_19 ?_
    refine j_sipush C 1013 dX12_late_22 (by decide) ?_
    refine j_iconst C 0 dX12_late_25 (by decide) ?_
    refine j_cV C l_X12_314 [.ref (G.1 + 98), .int ((1013 : Int32)), .int ((0 : Int32))] [] (fun _ => none) (fun u3 => u3) (fun u3 => []) n_84 hm (fun l u hu => c_Mod_flows hu) rfl (Nat.le_of_ble_eq_true rfl) rfl (Nat.le_of_ble_eq_true rfl) (Nat.le_of_ble_eq_true rfl) (fun _ => rfl) dX12_late_26 (fun u3 hm => ?_)
    refine j_aload_n C 0 dX12_late_29 rfl rfl ?_
    refine j_aload_n C 0 dX12_late_30 rfl rfl ?_
    refine j_gS C f_X12_58 n_84 q_84_26 dX12_late_31 ?_
    refine j_iload_n C 1 dX12_late_34 rfl rfl ?_
    refine j_cV C l_X12_324 [.ref (G.1 + 97), .int v1] [] (fun u4 => some (.int u4)) (fun _ => u3) (fun u4 => [.int u4]) n_84 hm (fun l u hu => c_Mod_slackAt hu) rfl (Nat.le_of_ble_eq_true rfl) rfl (Nat.le_of_ble_eq_true rfl) (Nat.le_of_ble_eq_true rfl) (fun _ => rfl) dX12_late_35 (fun u4 hm => ?_)
    refine j_istore_n C [(2, .int u4), (0, .ref (G.1 + 84)), (1, .int v1)] dX12_late_38 rfl (by decide) rfl ?_
    refine j_aload_n C 1 dX12_late_39 rfl rfl ?_
    refine j_aload_n C 1 dX12_late_40 rfl rfl ?_
    refine j_gS C f_X12_61 n_84 q_84_27 dX12_late_41 ?_
    refine j_iload_n C 2 dX12_late_44 rfl rfl ?_
    refine j_cV C l_X12_324 [.ref (G.1 + 98), .int v1] [] (fun u5 => some (.int u5)) (fun _ => u3) (fun u5 => [.int u5]) n_84 hm (fun l u hu => c_Mod_slackAt hu) rfl (Nat.le_of_ble_eq_true rfl) rfl (Nat.le_of_ble_eq_true rfl) (Nat.le_of_ble_eq_true rfl) (fun _ => rfl) dX12_late_45 (fun u5 hm => ?_)
    refine j_istore_n C [(3, .int u5), (2, .int u4), (0, .ref (G.1 + 84)), (1, .int v1)] dX12_late_48 rfl (by decide) rfl ?_
    refine j_iload_n C 1 dX12_late_49 rfl rfl ?_
    refine j_iflt C 57 dX12_late_50 (by decide) hm (fun hm => ?_) (fun hm => ?_)
    · refine j_sub (L' := []) [] rfl ?_
      exact w_Mod_late_57 C O hm
    · refine j_iload_n C 0 dX12_late_53 rfl rfl ?_
      refine j_ifge C 63 dX12_late_54 (by decide) hm (fun hm => ?_) (fun hm => ?_)
      · refine j_iload_n C 1 dX12_late_63 rfl rfl ?_
        refine j_iload_n C 0 dX12_late_64 rfl rfl ?_
        refine j_isub C dX12_late_65 ?_
        refine j_sub (L' := []) [] rfl ?_
        exact w_Mod_late_66 C O hm
      · refine j_sub (L' := []) [] rfl ?_
        exact w_Mod_late_57 C O hm
  · refine j_ldc_w C wd_1649 dX12_late_4 ?_
    obtain rfl := Option.some.inj hm
    exact j_iret C O dX12_late_7
theorem c_Mod_late {G : jG} {l : Launch} {v1 : Int32} {h : Hp} {out : (Int32 × Hp)} (hm : s_Mod_late v1 h = some out) : mt G l yX12_late cX12_late 4 (some .int) 179 4679 [.ref (G.1 + 84), .int v1] h (some (.int out.1)) out.2 :=
  mt_of (by decide) (Nat.le_of_ble_eq_true rfl) _ rfl (fun X I C O => w_Mod_late C O hm)
