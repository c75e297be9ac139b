noncomputable def s_Rule_freshen_109 (v1 : Int32) (v2 : Int32) (h : Hp) : Option ((Int32 × Int32 × Hp) ⊕ Hp) :=
  some (.inl (v1, (v2 + (1 : Int32)), h))
noncomputable def s_Rule_freshen_105 (v1 : Int32) (v2 : Int32) (s0 : Int32) (s1 : Int32) (h : Hp) : Option ((Int32 × Int32 × Hp) ⊕ Hp) :=
  s_Rule_freshen_109 v1 v2 (sI h 78 2 (s1 + s0))
noncomputable def s_Rule_freshen_89 (v1 : Int32) (v2 : Int32) (v3 : Int32) (s0 : Int32) (s1 : Int32) (s2 : Int32) (h : Hp) : Option ((Int32 × Int32 × Hp) ⊕ Hp) :=
  ib s2 1441 <| lt (sI h 79 (ix s2) (s1 + s0)) fun h1 => if v3 = 0 then
    s_Rule_freshen_105 v1 v2 ((1 : Int32)) (hI h1 78 2) h1
  else
    s_Rule_freshen_105 v1 v2 ((0 : Int32)) (hI h1 78 2) h1
noncomputable def s_Rule_freshen_53 (v1 : Int32) (v2 : Int32) (h : Hp) : Option ((Int32 × Int32 × Hp) ⊕ Hp) :=
  if (hI h 78 3) = 0 then
    s_Rule_freshen_109 v1 v2 h
  else
    (s_Water_isSlack v2 h).bind fun u1 => ib ((v2 - v1) + ((1 : Int32))) 1441 <| if u1 = 0 then
      s_Rule_freshen_89 v1 v2 u1 ((-1 : Int32)) (hI h 79 (ix ((v2 - v1) + ((1 : Int32))))) ((v2 - v1) + ((1 : Int32))) h
    else
      s_Rule_freshen_89 v1 v2 u1 ((1 : Int32)) (hI h 79 (ix ((v2 - v1) + ((1 : Int32))))) ((v2 - v1) + ((1 : Int32))) h
noncomputable def s_Rule_freshen_117 (v2 : Int32) (h : Hp) : Option ((Int32 × Hp) ⊕ Hp) :=
  if ((1440 : Int32)) < v2 then
    some (.inr (sI h 78 4 ((1 : Int32))))
  else
    ib v2 1441 <| ib (v2 - ((1 : Int32))) 1441 <| ib v2 1441 <| some (.inl ((v2 + (1 : Int32)), (sI h 79 (ix v2) ((hI h 79 (ix v2)) + (hI h 79 (ix (v2 - ((1 : Int32)))))))))
noncomputable def s_Rule_freshen_31 (v1 : Int32) (v2 : Int32) (h : Hp) : Option ((Int32 × Int32 × Hp) ⊕ Hp) :=
  if ((1440 : Int32)) ≤ v2 then
    inr (lp (fun q => s_Rule_freshen_117 q.1 q.2) (((1 : Int32)), h))
  else
    (s_Rule_isHigh v2 h).bind fun u1 => if u1 = 0 then
      s_Rule_freshen_53 v1 v2 h
    else
      s_Rule_freshen_53 v2 v2 (sI h 78 3 ((1 : Int32)))
noncomputable def s_Rule_freshen (h : Hp) : Option Hp :=
  if (hI h 78 4) = 0 then
    (s_Arr_fillI 79 ((0 : Int32)) h).bind fun u1 => lp (fun q => s_Rule_freshen_31 q.1 q.2.1 q.2.2) (((0 : Int32)), ((60 : Int32)), (sI (sI u1 78 2 ((0 : Int32))) 78 3 ((0 : Int32))))
  else
    some h
def O_Rule_freshen (G : jG) (X : jX) (out : Hp) : Prop := jO G X (none) none out
def P_Rule_freshen_31 (G : jG) (X : jX) (q : Int32 × Int32 × Hp) : Prop := J G X 31 [(0, .ref (G.1 + 78)), (1, .int q.1), (2, .int q.2.1)] [] q.2.2
def O_Rule_freshen_31 (G : jG) (X : jX) (t : ((Int32 × Int32 × Hp) ⊕ Hp)) : Prop := Sum.elim (P_Rule_freshen_31 G X) (O_Rule_freshen G X) t
def P_Rule_freshen_117 (G : jG) (X : jX) (q : Int32 × Hp) : Prop := J G X 117 [(0, .ref (G.1 + 78)), (2, .int q.1)] [] q.2
def O_Rule_freshen_117 (G : jG) (X : jX) (t : ((Int32 × Hp) ⊕ Hp)) : Prop := Sum.elim (P_Rule_freshen_117 G X) (O_Rule_freshen G X) t
theorem w_Rule_freshen_109 {G : jG} {X : jX} (C : jC G X cX4_freshen 4 RX4 4 139) {v1 : Int32} {v2 : Int32} {h : Hp} {out : ((Int32 × Int32 × Hp) ⊕ Hp)} (O : (O_Rule_freshen_31 G X) out) (hm : s_Rule_freshen_109 v1 v2 h = some out) : J G X 109 [(0, .ref (G.1 + 78)), (1, .int v1), (2, .int v2)] [] h := by
  unfold s_Rule_freshen_109 at hm
  refine j_iinc C 2 [(2, .int (v2 + (1 : Int32))), (0, .ref (G.1 + 78)), (1, .int v1)] dX4_freshen_109 rfl (add_lit (by decide)) (by decide) rfl ?_
  refine j_goto C 31 dX4_freshen_112 (by decide) ?_
  obtain rfl := Option.some.inj hm
  refine j_sub (L' := [(0, .ref (G.1 + 78)), (1, .int v1), (2, .int (v2 + (1 : Int32)))]) [1, 2, 0] rfl ?_
  exact O
theorem w_Rule_freshen_105 {G : jG} {X : jX} (C : jC G X cX4_freshen 4 RX4 4 139) {v1 : Int32} {v2 : Int32} {s0 : Int32} {s1 : Int32} {h : Hp} {out : ((Int32 × Int32 × Hp) ⊕ Hp)} (O : (O_Rule_freshen_31 G X) out) (hm : s_Rule_freshen_105 v1 v2 s0 s1 h = some out) : J G X 105 [(0, .ref (G.1 + 78)), (1, .int v1), (2, .int v2)] [.int s0, .int s1, .ref (G.1 + 78)] h := by
  unfold s_Rule_freshen_105 at hm
  refine j_iadd C dX4_freshen_105 ?_
  refine j_pI C f_X4_15 n_78 dX4_freshen_106 ?_
  refine j_sub (L' := [(0, .ref (G.1 + 78)), (1, .int v1), (2, .int v2)]) [0, 1, 2] rfl ?_
  exact w_Rule_freshen_109 C O hm
theorem w_Rule_freshen_89 {G : jG} {X : jX} (C : jC G X cX4_freshen 4 RX4 4 139) {v1 : Int32} {v2 : Int32} {v3 : Int32} {s0 : Int32} {s1 : Int32} {s2 : Int32} {h : Hp} {out : ((Int32 × Int32 × Hp) ⊕ Hp)} (O : (O_Rule_freshen_31 G X) out) (hm : s_Rule_freshen_89 v1 v2 v3 s0 s1 s2 h = some out) : J G X 89 [(0, .ref (G.1 + 78)), (1, .int v1), (2, .int v2), (3, .int v3)] [.int s0, .int s1, .int s2, .ref (G.1 + 79)] h := by
  unfold s_Rule_freshen_89 at hm
  refine j_iadd C dX4_freshen_89 ?_
  refine j_iast C n_79 hm dX4_freshen_90 (fun hm => ?_)
  refine j_aload_n C 0 dX4_freshen_91 rfl rfl ?_
  refine j_dup C dX4_freshen_92 rfl ?_
  refine j_nmH hm (fun h1 hm => ?_)
  refine j_gI C f_X4_15 n_78 dX4_freshen_93 ?_
  refine j_iload_n C 3 dX4_freshen_96 rfl rfl ?_
  refine j_ifeq C 104 dX4_freshen_97 (by decide) hm (fun hm => ?_) (fun hm => ?_)
  · refine j_iconst C 1 dX4_freshen_104 (by decide) ?_
    refine j_sub (L' := [(0, .ref (G.1 + 78)), (1, .int v1), (2, .int v2)]) [0, 1, 2] rfl ?_
    exact w_Rule_freshen_105 C O hm
  · refine j_iconst C 0 dX4_freshen_100 (by decide) ?_
    refine j_goto C 105 dX4_freshen_101 (by decide) ?_
    refine j_sub (L' := [(0, .ref (G.1 + 78)), (1, .int v1), (2, .int v2)]) [0, 1, 2] rfl ?_
    exact w_Rule_freshen_105 C O hm
theorem w_Rule_freshen_53 {G : jG} {X : jX} (C : jC G X cX4_freshen 4 RX4 4 139) {v1 : Int32} {v2 : Int32} {h : Hp} {out : ((Int32 × Int32 × Hp) ⊕ Hp)} (O : (O_Rule_freshen_31 G X) out) (hm : s_Rule_freshen_53 v1 v2 h = some out) : J G X 53 [(0, .ref (G.1 + 78)), (1, .int v1), (2, .int v2)] [] h := by
  unfold s_Rule_freshen_53 at hm
  refine j_aload_n C 0 dX4_freshen_53 rfl rfl ?_
  refine j_gZ C f_X4_19 n_78 dX4_freshen_54 ?_
  refine j_ifeq C 109 dX4_freshen_57 (by decide) hm (fun hm => ?_) (fun hm => ?_)
  · refine j_sub (L' := [(0, .ref (G.1 + 78)), (1, .int v1), (2, .int v2)]) [0, 1, 2] rfl ?_
    exact w_Rule_freshen_109 C O hm
  · refine j_aload_n C 0 dX4_freshen_60 rfl rfl ?_
    refine j_gS C f_X4_26 n_78 q_78_0 dX4_freshen_61 ?_
    refine j_iload_n C 2 dX4_freshen_64 rfl rfl ?_
    refine j_cV C l_X4_40 [.int v2] [] (fun u1 => some (.int u1)) (fun _ => h) (fun u1 => [.int u1]) n_50 hm (fun l u hu => c_Water_isSlack hu) rfl (Nat.le_of_ble_eq_true rfl) rfl (Nat.le_of_ble_eq_true rfl) (Nat.le_of_ble_eq_true rfl) (fun _ => rfl) dX4_freshen_65 (fun u1 hm => ?_)
    refine j_istore_n C [(3, .int u1), (0, .ref (G.1 + 78)), (1, .int v1), (2, .int v2)] dX4_freshen_68 rfl (by decide) rfl ?_
    refine j_aload_n C 1 dX4_freshen_69 rfl rfl ?_
    refine j_gS C f_X4_9 n_78 q_78_1 dX4_freshen_70 ?_
    refine j_iload_n C 3 dX4_freshen_73 rfl rfl ?_
    refine j_iload_n C 2 dX4_freshen_74 rfl rfl ?_
    refine j_isub C dX4_freshen_75 ?_
    refine j_iconst C 1 dX4_freshen_76 (by decide) ?_
    refine j_iadd C dX4_freshen_77 ?_
    refine j_dup2_11 C dX4_freshen_78 rfl rfl ?_
    refine j_iald C n_79 hm dX4_freshen_79 (fun hm => ?_)
    refine j_iload_n C 0 dX4_freshen_80 rfl rfl ?_
    refine j_ifeq C 88 dX4_freshen_81 (by decide) hm (fun hm => ?_) (fun hm => ?_)
    · refine j_iconst C (-1 : Int32) dX4_freshen_88 (by decide) ?_
      refine j_sub (L' := [(0, .ref (G.1 + 78)), (1, .int v1), (2, .int v2), (3, .int u1)]) [1, 2, 3, 0] rfl ?_
      exact w_Rule_freshen_89 C O hm
    · refine j_iconst C 1 dX4_freshen_84 (by decide) ?_
      refine j_goto C 89 dX4_freshen_85 (by decide) ?_
      refine j_sub (L' := [(0, .ref (G.1 + 78)), (1, .int v1), (2, .int v2), (3, .int u1)]) [1, 2, 3, 0] rfl ?_
      exact w_Rule_freshen_89 C O hm
theorem w_Rule_freshen_117 {G : jG} {X : jX} (C : jC G X cX4_freshen 4 RX4 4 139) {v2 : Int32} {h : Hp} {out : ((Int32 × Hp) ⊕ Hp)} (O : (O_Rule_freshen_117 G X) out) (hm : s_Rule_freshen_117 v2 h = some out) : J G X 117 [(0, .ref (G.1 + 78)), (2, .int v2)] [] h := by
  unfold s_Rule_freshen_117 at hm
  refine j_iload_n C 1 dX4_freshen_117 rfl rfl ?_
  refine j_sipush C 1440 dX4_freshen_118 (by decide) ?_
  refine j_if_icmpgt C 147 dX4_freshen_121 (by decide) hm (fun hm => ?_) (fun hm => ?_)
  · refine j_aload_n C 0 dX4_freshen_147 rfl rfl ?_
    refine j_iconst C 1 dX4_freshen_148 (by decide) ?_
    refine j_pZ C f_X4_23 n_78 (by decide) dX4_freshen_149 ?_
    obtain rfl := Option.some.inj hm
    exact j_vret C O dX4_freshen_152
  · refine j_aload_n C 0 dX4_freshen_124 rfl rfl ?_
    refine j_gS C f_X4_9 n_78 q_78_1 dX4_freshen_125 ?_
    refine j_iload_n C 1 dX4_freshen_128 rfl rfl ?_
    refine j_dup2_11 C dX4_freshen_129 rfl rfl ?_
    refine j_iald C n_79 hm dX4_freshen_130 (fun hm => ?_)
    refine j_aload_n C 0 dX4_freshen_131 rfl rfl ?_
    refine j_gS C f_X4_9 n_78 q_78_1 dX4_freshen_132 ?_
    refine j_iload_n C 1 dX4_freshen_135 rfl rfl ?_
    refine j_iconst C 1 dX4_freshen_136 (by decide) ?_
    refine j_isub C dX4_freshen_137 ?_
    refine j_iald C n_79 hm dX4_freshen_138 (fun hm => ?_)
    refine j_iadd C dX4_freshen_139 ?_
    refine j_iast C n_79 hm dX4_freshen_140 (fun hm => ?_)
    refine j_iinc C 1 [(2, .int (v2 + (1 : Int32))), (0, .ref (G.1 + 78))] dX4_freshen_141 rfl (add_lit (by decide)) (by decide) rfl ?_
    refine j_goto C 117 dX4_freshen_144 (by decide) ?_
    obtain rfl := Option.some.inj hm
    refine j_sub (L' := [(0, .ref (G.1 + 78)), (2, .int (v2 + (1 : Int32)))]) [1, 0] rfl ?_
    exact O
theorem k_Rule_freshen_117 {G : jG} {X : jX} (C : jC G X cX4_freshen 4 RX4 4 139) {v2 : Int32} {h : Hp} {out : Hp} (O : (O_Rule_freshen G X) out) (hm : lp (fun q => s_Rule_freshen_117 q.1 q.2) (v2, h) = some out) : J G X 117 [(0, .ref (G.1 + 78)), (2, .int v2)] [] h :=
  lp_ok (P := P_Rule_freshen_117 G X) (O := (O_Rule_freshen G X)) (fun q r hm O => w_Rule_freshen_117 C O hm) hm O
theorem w_Rule_freshen_31 {G : jG} {X : jX} (C : jC G X cX4_freshen 4 RX4 4 139) {v1 : Int32} {v2 : Int32} {h : Hp} {out : ((Int32 × Int32 × Hp) ⊕ Hp)} (O : (O_Rule_freshen_31 G X) out) (hm : s_Rule_freshen_31 v1 v2 h = some out) : J G X 31 [(0, .ref (G.1 + 78)), (1, .int v1), (2, .int v2)] [] h := by
  unfold s_Rule_freshen_31 at hm
  refine j_iload_n C 2 dX4_freshen_31 rfl rfl ?_
  refine j_sipush C 1440 dX4_freshen_32 (by decide) ?_
  refine j_if_icmpge C 115 dX4_freshen_35 (by decide) hm (fun hm => ?_) (fun hm => ?_)
  · refine j_iconst C 1 dX4_freshen_115 (by decide) ?_
    refine j_istore_n C [(2, .int ((1 : Int32))), (0, .ref (G.1 + 78)), (1, .int v1)] dX4_freshen_116 rfl (by decide) rfl ?_
    obtain ⟨o_0, hm_0, rfl⟩ := inr_inv hm
    refine j_sub (L' := [(0, .ref (G.1 + 78)), (2, .int ((1 : Int32)))]) [1, 0] rfl ?_
    exact k_Rule_freshen_117 C O hm_0
  · refine j_aload_n C 0 dX4_freshen_38 rfl rfl ?_
    refine j_iload_n C 2 dX4_freshen_39 rfl rfl ?_
    refine j_cV C l_X4_36 [.int v2] [] (fun u1 => some (.int u1)) (fun _ => h) (fun u1 => [.int u1]) n_78 hm (fun l u hu => c_Rule_isHigh hu) rfl (Nat.le_of_ble_eq_true rfl) rfl (Nat.le_of_ble_eq_true rfl) (Nat.le_of_ble_eq_true rfl) (fun _ => rfl) dX4_freshen_40 (fun u1 hm => ?_)
    refine j_ifeq C 53 dX4_freshen_43 (by decide) hm (fun hm => ?_) (fun hm => ?_)
    · refine j_sub (L' := [(0, .ref (G.1 + 78)), (1, .int v1), (2, .int v2)]) [0, 1, 2] rfl ?_
      exact w_Rule_freshen_53 C O hm
    · refine j_iload_n C 2 dX4_freshen_46 rfl rfl ?_
      refine j_istore_n C [(1, .int v2), (0, .ref (G.1 + 78)), (2, .int v2)] dX4_freshen_47 rfl (by decide) rfl ?_
      refine j_aload_n C 1 dX4_freshen_48 rfl rfl ?_
      refine j_iconst C 1 dX4_freshen_49 (by decide) ?_
      refine j_pZ C f_X4_19 n_78 (by decide) dX4_freshen_50 ?_
      refine j_sub (L' := [(0, .ref (G.1 + 78)), (1, .int v2), (2, .int v2)]) [1, 0, 2] rfl ?_
      exact w_Rule_freshen_53 C O hm
theorem k_Rule_freshen_31 {G : jG} {X : jX} (C : jC G X cX4_freshen 4 RX4 4 139) {v1 : Int32} {v2 : Int32} {h : Hp} {out : Hp} (O : (O_Rule_freshen G X) out) (hm : lp (fun q => s_Rule_freshen_31 q.1 q.2.1 q.2.2) (v1, v2, h) = some out) : J G X 31 [(0, .ref (G.1 + 78)), (1, .int v1), (2, .int v2)] [] h :=
  lp_ok (P := P_Rule_freshen_31 G X) (O := (O_Rule_freshen G X)) (fun q r hm O => w_Rule_freshen_31 C O hm) hm O
theorem w_Rule_freshen {G : jG} {X : jX} (C : jC G X cX4_freshen 4 RX4 4 139) {h : Hp} {out : Hp} (O : (O_Rule_freshen G X) out) (hm : s_Rule_freshen h = some out) : J G X 0 [(0, .ref (G.1 + 78))] [] h := by
  unfold s_Rule_freshen at hm
  refine j_aload_n C 0 dX4_freshen_0 rfl rfl ?_
  refine j_gZ C f_X4_23 n_78 dX4_freshen_1 ?_
  refine j_ifeq C 8 dX4_freshen_4 (by decide) hm (fun hm => ?_) (fun hm => ?_)
  · refine j_aload_n C 0 dX4_freshen_8 rfl rfl ?_
    refine j_gS C f_X4_9 n_78 q_78_1 dX4_freshen_9 ?_
    refine j_iconst C 0 dX4_freshen_12 (by decide) ?_
    refine j_cS C l_X4_30 [.ref (G.1 + 79), .int ((0 : Int32))] [] (fun _ => none) (fun u1 => u1) (fun u1 => []) hm (fun l u hu => c_Arr_fillI hu) rfl (Nat.le_of_ble_eq_true rfl) rfl (Nat.le_of_ble_eq_true rfl) (Nat.le_of_ble_eq_true rfl) (fun _ => rfl) dX4_freshen_13 (fun u1 hm => ?_)
    refine j_aload_n C 0 dX4_freshen_16 rfl rfl ?_
    refine j_iconst C 0 dX4_freshen_17 (by decide) ?_
    refine j_pI C f_X4_15 n_78 dX4_freshen_18 ?_
    refine j_aload_n C 0 dX4_freshen_21 rfl rfl ?_
    refine j_iconst C 0 dX4_freshen_22 (by decide) ?_
    refine j_pZ C f_X4_19 n_78 (by decide) dX4_freshen_23 ?_
    refine j_iconst C 0 dX4_freshen_26 (by decide) ?_
    refine j_istore_n C [(1, .int ((0 : Int32))), (0, .ref (G.1 + 78))] dX4_freshen_27 rfl (by decide) rfl ?_
    refine j_bipush C 60 dX4_freshen_28 (by decide) ?_
    refine j_istore_n C [(2, .int ((60 : Int32))), (1, .int ((0 : Int32))), (0, .ref (G.1 + 78))] dX4_freshen_30 rfl (by decide) rfl ?_
    refine j_sub (L' := [(0, .ref (G.1 + 78)), (1, .int ((0 : Int32))), (2, .int ((60 : Int32)))]) [2, 1, 0] rfl ?_
    exact k_Rule_freshen_31 C O hm
  · obtain rfl := Option.some.inj hm
    exact j_vret C O dX4_freshen_7
theorem c_Rule_freshen {G : jG} {l : Launch} {h : Hp} {out : Hp} (hm : s_Rule_freshen h = some out) : mt G l yX4_freshen cX4_freshen 4 (none) 4 139 [.ref (G.1 + 78)] h none out :=
  mt_of (by decide) (Nat.le_of_ble_eq_true rfl) _ rfl (fun X I C O => w_Rule_freshen C O hm)
noncomputable def s_Race_mark (v1 : Int32) (h : Hp) : Option (Int32 × Hp) :=
  (s_Race_isWithin v1 ((0 : Int32)) ((720 : Int32)) h).bind fun u1 => if u1 = 0 then
    some ((-1 : Int32), h)
  else
    (s_Water_freshenToday h).bind fun u2 => (s_Rule_freshen u2).bind fun u3 => (s_Rule_bestFor v1 u3).bind fun u4 => some (u4, u3)
def O_Race_mark (G : jG) (X : jX) (out : (Int32 × Hp)) : Prop := jO G X (some .int) (some (.int out.1)) out.2
theorem w_Race_mark {G : jG} {X : jX} (C : jC G X cX11_mark 2 RX11 7 230) {v1 : Int32} {h : Hp} {out : (Int32 × Hp)} (O : (O_Race_mark G X) out) (hm : s_Race_mark v1 h = some out) : J G X 0 [(0, .ref (G.1 + 0)), (1, .int v1)] [] h := by
  unfold s_Race_mark at hm
  refine j_iload_n C 1 dX11_mark_0 rfl rfl ?_
  refine j_iconst C 0 dX11_mark_1 (by decide) ?_
  refine j_sipush C 720 dX11_mark_2 (by decide) ?_
  refine j_cS C l_X11_102 [.int v1, .int ((0 : Int32)), .int ((720 : Int32))] [] (fun u1 => some (.int u1)) (fun _ => h) (fun u1 => [.int u1]) hm (fun l u hu => c_Race_isWithin hu) rfl (Nat.le_of_ble_eq_true rfl) rfl (Nat.le_of_ble_eq_true rfl) (Nat.le_of_ble_eq_true rfl) (fun _ => rfl) dX11_mark_5 (fun u1 hm => ?_)
  refine j_ifne C 13 dX11_mark_8 (by decide) hm (fun hm => ?_) (fun hm => ?_)
  · refine j_iconst C (-1 : Int32) dX11_mark_11 (by decide) ?_
    obtain rfl := Option.some.inj hm
    exact j_iret C O dX11_mark_12
  · refine j_aload_n C 0 dX11_mark_13 rfl rfl ?_
    refine j_gS C f_X11_45 n_0 q_0_5 dX11_mark_14 ?_
    refine j_cV C l_X11_194 [] [] (fun _ => none) (fun u2 => u2) (fun u2 => []) n_50 hm (fun l u hu => c_Water_freshenToday hu) rfl (Nat.le_of_ble_eq_true rfl) rfl (Nat.le_of_ble_eq_true rfl) (Nat.le_of_ble_eq_true rfl) (fun _ => rfl) dX11_mark_17 (fun u2 hm => ?_)
    refine j_aload_n C 0 dX11_mark_20 rfl rfl ?_
    refine j_gS C f_X11_77 n_0 q_0_9 dX11_mark_21 ?_
    refine j_cV C l_X11_352 [] [] (fun _ => none) (fun u3 => u3) (fun u3 => []) n_78 hm (fun l u hu => c_Rule_freshen hu) rfl (Nat.le_of_ble_eq_true rfl) rfl (Nat.le_of_ble_eq_true rfl) (Nat.le_of_ble_eq_true rfl) (fun _ => rfl) dX11_mark_24 (fun u3 hm => ?_)
    refine j_aload_n C 0 dX11_mark_27 rfl rfl ?_
    refine j_gS C f_X11_77 n_0 q_0_9 dX11_mark_28 ?_
    refine j_iload_n C 1 dX11_mark_31 rfl rfl ?_
    refine j_cV C l_X11_356 [.int v1] [] (fun u4 => some (.int u4)) (fun _ => u3) (fun u4 => [.int u4]) n_78 hm (fun l u hu => c_Rule_bestFor hu) rfl (Nat.le_of_ble_eq_true rfl) rfl (Nat.le_of_ble_eq_true rfl) (Nat.le_of_ble_eq_true rfl) (fun _ => rfl) dX11_mark_32 (fun u4 hm => ?_)
    obtain rfl := Option.some.inj hm
    exact j_iret C O dX11_mark_35
theorem c_Race_mark {G : jG} {l : Launch} {v1 : Int32} {h : Hp} {out : (Int32 × Hp)} (hm : s_Race_mark v1 h = some out) : mt G l yX11_mark cX11_mark 2 (some .int) 7 230 [.ref (G.1 + 0), .int v1] h (some (.int out.1)) out.2 :=
  mt_of (by decide) (Nat.le_of_ble_eq_true rfl) _ rfl (fun X I C O => w_Race_mark C O hm)
noncomputable def s_Race_moon_43 (h : Hp) : Option (Int32 × Hp) :=
  (s_Race_refuse ((-1 : Int32)) h).bind fun u1 => some (u1.1, u1.2)
noncomputable def s_Race_moon (v1 : Int32) (v2 : Int32) (v3 : Int32) (v4 : Int32) (h : Hp) : Option (Int32 × Hp) :=
  (s_Race_isWithin v1 ((0 : Int32)) ((1 : Int32)) h).bind fun u1 => if u1 = 0 then
    s_Race_moon_43 h
  else
    (s_Race_isMoon v2 h).bind fun u2 => if u2 = 0 then
      s_Race_moon_43 h
    else
      (s_Race_isWithin v3 ((0 : Int32)) ((2 : Int32)) h).bind fun u3 => if u3 = 0 then
        s_Race_moon_43 h
      else
        ib v3 3 <| ib v3 3 <| (s_Race_isWithin v4 ([0, 60, 0].getD (ix v3) 0) ([500, 2000, 1999].getD (ix v3) 0) h).bind fun u4 => if u4 = 0 then
          s_Race_moon_43 h
        else
          (s_Race_moonPlace v1 v2 h).bind fun u5 => ib (u5 + v3) 24 <| ib (u5 + v3) 24 <| (s_Race_forgetLevels (sI h 3 (ix (u5 + v3)) v4)).bind fun u6 => (s_Race_grant (hI h 3 (ix (u5 + v3))) u6).bind fun u7 => some (u7.1, u7.2)
def O_Race_moon (G : jG) (X : jX) (out : (Int32 × Hp)) : Prop := jO G X (some .int) (some (.int out.1)) out.2
theorem w_Race_moon_43 {G : jG} {X : jX} (C : jC G X cX11_moon 7 RX11 5 154) {h : Hp} {out : (Int32 × Hp)} (O : (O_Race_moon G X) out) (hm : s_Race_moon_43 h = some out) : J G X 43 [(0, .ref (G.1 + 0))] [] h := by
  unfold s_Race_moon_43 at hm
  refine j_aload_n C 0 dX11_moon_43 rfl rfl ?_
  refine j_iconst C (-1 : Int32) dX11_moon_44 (by decide) ?_
  refine j_cV C l_X11_112 [.int ((-1 : Int32))] [] (fun u1 => some (.int u1.1)) (fun u1 => u1.2) (fun u1 => [.int u1.1]) n_0 hm (fun l u hu => c_Race_refuse hu) rfl (Nat.le_of_ble_eq_true rfl) rfl (Nat.le_of_ble_eq_true rfl) (Nat.le_of_ble_eq_true rfl) (fun _ => rfl) dX11_moon_45 (fun u1 hm => ?_)
  obtain rfl := Option.some.inj hm
  exact j_iret C O dX11_moon_48
theorem w_Race_moon {G : jG} {X : jX} (C : jC G X cX11_moon 7 RX11 5 154) {v1 : Int32} {v2 : Int32} {v3 : Int32} {v4 : Int32} {h : Hp} {out : (Int32 × Hp)} (O : (O_Race_moon G X) out) (hm : s_Race_moon v1 v2 v3 v4 h = some out) : J G X 0 [(0, .ref (G.1 + 0)), (1, .int v1), (2, .int v2), (3, .int v3), (4, .int v4)] [] h := by
  unfold s_Race_moon at hm
  refine j_iload_n C 1 dX11_moon_0 rfl rfl ?_
  refine j_iconst C 0 dX11_moon_1 (by decide) ?_
  refine j_iconst C 1 dX11_moon_2 (by decide) ?_
  refine j_cS C l_X11_102 [.int v1, .int ((0 : Int32)), .int ((1 : Int32))] [] (fun u1 => some (.int u1)) (fun _ => h) (fun u1 => [.int u1]) hm (fun l u hu => c_Race_isWithin hu) rfl (Nat.le_of_ble_eq_true rfl) rfl (Nat.le_of_ble_eq_true rfl) (Nat.le_of_ble_eq_true rfl) (fun _ => rfl) dX11_moon_3 (fun u1 hm => ?_)
  refine j_ifeq C 43 dX11_moon_6 (by decide) hm (fun hm => ?_) (fun hm => ?_)
  · refine j_sub (L' := [(0, .ref (G.1 + 0))]) [0] rfl ?_
    exact w_Race_moon_43 C O hm
  · refine j_iload_n C 2 dX11_moon_9 rfl rfl ?_
    refine j_cS C l_X11_125 [.int v2] [] (fun u2 => some (.int u2)) (fun _ => h) (fun u2 => [.int u2]) hm (fun l u hu => c_Race_isMoon hu) rfl (Nat.le_of_ble_eq_true rfl) rfl (Nat.le_of_ble_eq_true rfl) (Nat.le_of_ble_eq_true rfl) (fun _ => rfl) dX11_moon_10 (fun u2 hm => ?_)
    refine j_ifeq C 43 dX11_moon_13 (by decide) hm (fun hm => ?_) (fun hm => ?_)
    · refine j_sub (L' := [(0, .ref (G.1 + 0))]) [0] rfl ?_
      exact w_Race_moon_43 C O hm
    · refine j_iload_n C 3 dX11_moon_16 rfl rfl ?_
      refine j_iconst C 0 dX11_moon_17 (by decide) ?_
      refine j_iconst C 2 dX11_moon_18 (by decide) ?_
      refine j_cS C l_X11_102 [.int v3, .int ((0 : Int32)), .int ((2 : Int32))] [] (fun u3 => some (.int u3)) (fun _ => h) (fun u3 => [.int u3]) hm (fun l u hu => c_Race_isWithin hu) rfl (Nat.le_of_ble_eq_true rfl) rfl (Nat.le_of_ble_eq_true rfl) (Nat.le_of_ble_eq_true rfl) (fun _ => rfl) dX11_moon_19 (fun u3 hm => ?_)
      refine j_ifeq C 43 dX11_moon_22 (by decide) hm (fun hm => ?_) (fun hm => ?_)
      · refine j_sub (L' := [(0, .ref (G.1 + 0))]) [0] rfl ?_
        exact w_Race_moon_43 C O hm
      · refine j_iload C 4 dX11_moon_25 rfl ?_
        refine j_gs C (i := 1) rfl wd_651 dX11_moon_27 ?_
        refine j_iload_n C 3 dX11_moon_30 rfl rfl ?_
        refine j_sald C (a := 1) rfl rfl hm dX11_moon_31 (fun hm => ?_)
        refine j_gs C (i := 2) rfl wd_653 dX11_moon_32 ?_
        refine j_iload_n C 3 dX11_moon_35 rfl rfl ?_
        refine j_sald C (a := 2) rfl rfl hm dX11_moon_36 (fun hm => ?_)
        refine j_cS C l_X11_102 [.int v4, .int ([0, 60, 0].getD (ix v3) 0), .int ([500, 2000, 1999].getD (ix v3) 0)] [] (fun u4 => some (.int u4)) (fun _ => h) (fun u4 => [.int u4]) hm (fun l u hu => c_Race_isWithin hu) rfl (Nat.le_of_ble_eq_true rfl) rfl (Nat.le_of_ble_eq_true rfl) (Nat.le_of_ble_eq_true rfl) (fun _ => rfl) dX11_moon_37 (fun u4 hm => ?_)
        refine j_ifne C 49 dX11_moon_40 (by decide) hm (fun hm => ?_) (fun hm => ?_)
        · refine j_sub (L' := [(0, .ref (G.1 + 0))]) [0] rfl ?_
          exact w_Race_moon_43 C O hm
        · refine j_iload_n C 1 dX11_moon_49 rfl rfl ?_
          refine j_iload_n C 2 dX11_moon_50 rfl rfl ?_
          refine j_cS C l_X11_135 [.int v1, .int v2] [] (fun u5 => some (.int u5)) (fun _ => h) (fun u5 => [.int u5]) hm (fun l u hu => c_Race_moonPlace hu) rfl (Nat.le_of_ble_eq_true rfl) rfl (Nat.le_of_ble_eq_true rfl) (Nat.le_of_ble_eq_true rfl) (fun _ => rfl) dX11_moon_51 (fun u5 hm => ?_)
          refine j_iload_n C 3 dX11_moon_54 rfl rfl ?_
          refine j_iadd C dX11_moon_55 ?_
          refine j_istore C [(5, .int (u5 + v3)), (0, .ref (G.1 + 0)), (1, .int v1), (2, .int v2), (3, .int v3), (4, .int v4)] dX11_moon_56 (by decide) rfl ?_
          refine j_aload_n C 1 dX11_moon_58 rfl rfl ?_
          refine j_gS C f_X11_10 n_0 q_0_0 dX11_moon_59 ?_
          refine j_gS C f_X11_139 n_1 q_1_1 dX11_moon_62 ?_
          refine j_iload C 0 dX11_moon_65 rfl ?_
          refine j_iald C n_3 hm dX11_moon_67 (fun hm => ?_)
          refine j_istore C [(6, .int (hI h 3 (ix (u5 + v3)))), (5, .int (u5 + v3)), (0, .ref (G.1 + 0)), (1, .int v1), (2, .int v2), (3, .int v3), (4, .int v4)] dX11_moon_68 (by decide) rfl ?_
          refine j_aload_n C 2 dX11_moon_70 rfl rfl ?_
          refine j_gS C f_X11_10 n_0 q_0_0 dX11_moon_71 ?_
          refine j_gS C f_X11_139 n_1 q_1_1 dX11_moon_74 ?_
          refine j_iload C 1 dX11_moon_77 rfl ?_
          refine j_iload C 6 dX11_moon_79 rfl ?_
          refine j_iast C n_3 hm dX11_moon_81 (fun hm => ?_)
          refine j_aload_n C 2 dX11_moon_82 rfl rfl ?_
          refine j_cV C l_X11_119 [] [] (fun _ => none) (fun u6 => u6) (fun u6 => []) n_0 hm (fun l u hu => c_Race_forgetLevels hu) rfl (Nat.le_of_ble_eq_true rfl) rfl (Nat.le_of_ble_eq_true rfl) (Nat.le_of_ble_eq_true rfl) (fun _ => rfl) dX11_moon_83 (fun u6 hm => ?_)
          refine j_aload_n C 2 dX11_moon_86 rfl rfl ?_
          refine j_iload C 0 dX11_moon_87 rfl ?_
          refine j_cV C l_X11_122 [.int (hI h 3 (ix (u5 + v3)))] [] (fun u7 => some (.int u7.1)) (fun u7 => u7.2) (fun u7 => [.int u7.1]) n_0 hm (fun l u hu => c_Race_grant hu) rfl (Nat.le_of_ble_eq_true rfl) rfl (Nat.le_of_ble_eq_true rfl) (Nat.le_of_ble_eq_true rfl) (fun _ => rfl) dX11_moon_89 (fun u7 hm => ?_)
          obtain rfl := Option.some.inj hm
          exact j_iret C O dX11_moon_92
theorem c_Race_moon {G : jG} {l : Launch} {v1 : Int32} {v2 : Int32} {v3 : Int32} {v4 : Int32} {h : Hp} {out : (Int32 × Hp)} (hm : s_Race_moon v1 v2 v3 v4 h = some out) : mt G l yX11_moon cX11_moon 7 (some .int) 5 154 [.ref (G.1 + 0), .int v1, .int v2, .int v3, .int v4] h (some (.int out.1)) out.2 :=
  mt_of (by decide) (Nat.le_of_ble_eq_true rfl) _ rfl (fun X I C O => w_Race_moon C O hm)
noncomputable def s_Water_takenFromDriven_5 (v1 : Int32) (v2 : Int64) (v4 : Int32) (h : Hp) : Option ((Int32 × Int64 × Int32) ⊕ Int64) :=
  if ((1440 : Int32)) ≤ v4 then
    some (.inr (v2))
  else
    nn (hR h 50 7) fun r1 => ak h r1 0 <| ib v4 (ln h r1) <| lt (v2 + (((((Int32.toInt64 v1) * (Int32.toInt64 (z_abs (hI h r1 (ix v4))))) * (Int32.toInt64 (z_abs (hI h r1 (ix v4))))) * (Int32.toInt64 (z_abs (hI h r1 (ix v4))))) / ((1000000 : Int64)))) fun x4 => some (.inl (v1, x4, (v4 + (1 : Int32))))
noncomputable def s_Water_takenFromDriven (v1 : Int32) (h : Hp) : Option Int64 :=
  lp (fun q => s_Water_takenFromDriven_5 q.1 q.2.1 q.2.2 h) (v1, ((0 : Int64)), ((0 : Int32)))
def O_Water_takenFromDriven (G : jG) (X : jX) (h : Hp) (out : Int64) : Prop := jO G X (some .long) (some (.long out)) h
def P_Water_takenFromDriven_5 (G : jG) (X : jX) (h : Hp) (q : Int32 × Int64 × Int32) : Prop := J G X 5 [(0, .ref (G.1 + 50)), (1, .int q.1), (2, .long q.2.1), (4, .int q.2.2)] [] h
def O_Water_takenFromDriven_5 (G : jG) (X : jX) (h : Hp) (t : ((Int32 × Int64 × Int32) ⊕ Int64)) : Prop := Sum.elim (P_Water_takenFromDriven_5 G X h) (O_Water_takenFromDriven G X h) t
theorem w_Water_takenFromDriven_5 {G : jG} {X : jX} (C : jC G X cX9_takenFromDriven 7 RX9 1 70) {v1 : Int32} {v2 : Int64} {v4 : Int32} {h : Hp} {out : ((Int32 × Int64 × Int32) ⊕ Int64)} (O : (O_Water_takenFromDriven_5 G X h) out) (hm : s_Water_takenFromDriven_5 v1 v2 v4 h = some out) : J G X 5 [(0, .ref (G.1 + 50)), (1, .int v1), (2, .long v2), (4, .int v4)] [] h := by
  unfold s_Water_takenFromDriven_5 at hm
  refine j_iload C 3 dX9_takenFromDriven_5 rfl ?_
  refine j_sipush C 1440 dX9_takenFromDriven_7 (by decide) ?_
  refine j_if_icmpge C 50 dX9_takenFromDriven_10 (by decide) hm (fun hm => ?_) (fun hm => ?_)
  · refine j_lload_n C 2 dX9_takenFromDriven_50 rfl rfl ?_
    obtain rfl := Option.some.inj hm
    exact j_lret C O dX9_takenFromDriven_51
  · refine j_aload_n C 0 dX9_takenFromDriven_13 rfl rfl ?_
    refine j_gR C f_X9_35 n_50 q_50_7 dX9_takenFromDriven_14 ?_
    refine j_iload C 3 dX9_takenFromDriven_17 rfl ?_
    obtain ⟨r1, c2, hm⟩ := nn_inv hm
    rw [c2]
    change J G X _ _ _ _
    obtain ⟨c3, hm⟩ := ak_inv hm
    refine j_iald C c3 hm dX9_takenFromDriven_19 (fun hm => ?_)
    refine j_mabs C wd_941 wd_942 wd_126 wd_943 (Nat.le_of_ble_eq_true rfl) (Nat.le_of_ble_eq_true rfl) dX9_takenFromDriven_20 ?_
    refine j_i2l C dX9_takenFromDriven_23 ?_
    refine j_lstore C [(5, .long (Int32.toInt64 (z_abs (hI h r1 (ix v4))))), (0, .ref (G.1 + 50)), (1, .int v1), (2, .long v2), (4, .int v4)] dX9_takenFromDriven_24 (by decide) rfl ?_
    refine j_lload_n C 3 dX9_takenFromDriven_26 rfl rfl ?_
    refine j_iload_n C 2 dX9_takenFromDriven_27 rfl rfl ?_
    refine j_i2l C dX9_takenFromDriven_28 ?_
    refine j_lload C 0 dX9_takenFromDriven_29 rfl ?_
    refine j_lmul C dX9_takenFromDriven_31 ?_
    refine j_lload C 0 dX9_takenFromDriven_32 rfl ?_
    refine j_lmul C dX9_takenFromDriven_34 ?_
    refine j_lload C 0 dX9_takenFromDriven_35 rfl ?_
    refine j_lmul C dX9_takenFromDriven_37 ?_
    refine j_ldc2 C wd_1179 dX9_takenFromDriven_38 ?_
    refine j_ldiv C dX9_takenFromDriven_41 (by decide) ?_
    refine j_ladd C dX9_takenFromDriven_42 ?_
    refine j_nmL hm (fun x4 hm => ?_)
    refine j_lstore_n C [(2, .long x4), (5, .long (Int32.toInt64 (z_abs (hI h r1 (ix v4))))), (0, .ref (G.1 + 50)), (1, .int v1), (4, .int v4)] dX9_takenFromDriven_43 rfl (by decide) rfl ?_
    refine j_iinc C 4 [(4, .int (v4 + (1 : Int32))), (2, .long x4), (5, .long (Int32.toInt64 (z_abs (hI h r1 (ix v4))))), (0, .ref (G.1 + 50)), (1, .int v1)] dX9_takenFromDriven_44 rfl (add_lit (by decide)) (by decide) rfl ?_
    refine j_goto C 5 dX9_takenFromDriven_47 (by decide) ?_
    obtain rfl := Option.some.inj hm
    refine j_sub (L' := [(0, .ref (G.1 + 50)), (1, .int v1), (2, .long x4), (4, .int (v4 + (1 : Int32)))]) [3, 4, 1, 0] rfl ?_
    exact O
theorem k_Water_takenFromDriven_5 {G : jG} {X : jX} (C : jC G X cX9_takenFromDriven 7 RX9 1 70) {v1 : Int32} {v2 : Int64} {v4 : Int32} {h : Hp} {out : Int64} (O : (O_Water_takenFromDriven G X h) out) (hm : lp (fun q => s_Water_takenFromDriven_5 q.1 q.2.1 q.2.2 h) (v1, v2, v4) = some out) : J G X 5 [(0, .ref (G.1 + 50)), (1, .int v1), (2, .long v2), (4, .int v4)] [] h :=
  lp_ok (P := P_Water_takenFromDriven_5 G X h) (O := (O_Water_takenFromDriven G X h)) (fun q r hm O => w_Water_takenFromDriven_5 C O hm) hm O
theorem w_Water_takenFromDriven {G : jG} {X : jX} (C : jC G X cX9_takenFromDriven 7 RX9 1 70) {v1 : Int32} {h : Hp} {out : Int64} (O : (O_Water_takenFromDriven G X h) out) (hm : s_Water_takenFromDriven v1 h = some out) : J G X 0 [(0, .ref (G.1 + 50)), (1, .int v1)] [] h := by
  unfold s_Water_takenFromDriven at hm
  refine j_lconst C 0 dX9_takenFromDriven_0 (by decide) ?_
  refine j_lstore_n C [(2, .long ((0 : Int64))), (0, .ref (G.1 + 50)), (1, .int v1)] dX9_takenFromDriven_1 rfl (by decide) rfl ?_
  refine j_iconst C 0 dX9_takenFromDriven_2 (by decide) ?_
  refine j_istore C [(4, .int ((0 : Int32))), (2, .long ((0 : Int64))), (0, .ref (G.1 + 50)), (1, .int v1)] dX9_takenFromDriven_3 (by decide) rfl ?_
  refine j_sub (L' := [(0, .ref (G.1 + 50)), (1, .int v1), (2, .long ((0 : Int64))), (4, .int ((0 : Int32)))]) [2, 3, 1, 0] rfl ?_
  exact k_Water_takenFromDriven_5 C O hm
theorem c_Water_takenFromDriven {G : jG} {l : Launch} {v1 : Int32} {h : Hp} {out : Int64} (hm : s_Water_takenFromDriven v1 h = some out) : mt G l yX9_takenFromDriven cX9_takenFromDriven 7 (some .long) 1 70 [.ref (G.1 + 50), .int v1] h (some (.long out)) h :=
  mt_of (by decide) (Nat.le_of_ble_eq_true rfl) _ rfl (fun X I C O => w_Water_takenFromDriven C O hm)
noncomputable def s_Water_drive_71 (h : Hp) : Option Hp :=
  some h
noncomputable def s_Water_drive (v1 : Int32) (h : Hp) : Option Hp :=
  if (hI h 50 12) = v1 then
    s_Water_drive_71 h
  else
    ib ((9 : Int32)) 11 <| (s_Arr_fillI 55 (hI h 4 (ix ((9 : Int32)))) h).bind fun u1 => (s_Water_made (hR u1 50 7) u1).bind fun u2 => lt (sR u2.2 50 7 (some u2.1)) fun h3 => ib ((10 : Int32)) 11 <| nn (hR h3 50 7) fun r4 => (s_Water_run r4 (hI h3 4 (ix ((10 : Int32)))) v1 h3).bind fun u6 => lt (sI u6 50 12 v1) fun h7 => (s_Water_takenFromDriven v1 h7).bind fun u8 => ib v1 21 <| s_Water_drive_71 (sL h7 56 (ix v1) u8)
def O_Water_drive (G : jG) (X : jX) (out : Hp) : Prop := jO G X (none) none out
theorem w_Water_drive_71 {G : jG} {X : jX} (C : jC G X cX9_drive 2 RX9 6 210) {h : Hp} {out : Hp} (O : (O_Water_drive G X) out) (hm : s_Water_drive_71 h = some out) : J G X 71 [] [] h := by
  unfold s_Water_drive_71 at hm
  obtain rfl := Option.some.inj hm
  exact j_vret C O dX9_drive_71
theorem w_Water_drive {G : jG} {X : jX} (C : jC G X cX9_drive 2 RX9 6 210) {v1 : Int32} {h : Hp} {out : Hp} (O : (O_Water_drive G X) out) (hm : s_Water_drive v1 h = some out) : J G X 0 [(0, .ref (G.1 + 50)), (1, .int v1)] [] h := by
  unfold s_Water_drive at hm
  refine j_aload_n C 0 dX9_drive_0 rfl rfl ?_
  refine j_gI C f_X9_51 n_50 dX9_drive_1 ?_
  refine j_iload_n C 1 dX9_drive_4 rfl rfl ?_
  refine j_if_icmpeq C 71 dX9_drive_5 (by decide) hm (fun hm => ?_) (fun hm => ?_)
  · refine j_sub (L' := []) [] rfl ?_
    exact w_Water_drive_71 C O hm
  · refine j_aload_n C 0 dX9_drive_8 rfl rfl ?_
    refine j_gS C f_X9_22 n_50 q_50_3 dX9_drive_9 ?_
    refine j_aload_n C 0 dX9_drive_12 rfl rfl ?_
    refine j_gS C f_X9_58 n_50 q_50_0 dX9_drive_13 ?_
    refine j_gS C f_X9_90 n_1 q_1_2 dX9_drive_16 ?_
    refine j_bipush C 9 dX9_drive_19 (by decide) ?_
    refine j_iald C n_4 hm dX9_drive_21 (fun hm => ?_)
    refine j_cS C l_X9_97 [.ref (G.1 + 55), .int (hI h 4 (ix ((9 : Int32))))] [] (fun _ => none) (fun u1 => u1) (fun u1 => []) hm (fun l u hu => c_Arr_fillI hu) rfl (Nat.le_of_ble_eq_true rfl) rfl (Nat.le_of_ble_eq_true rfl) (Nat.le_of_ble_eq_true rfl) (fun _ => rfl) dX9_drive_22 (fun u1 hm => ?_)
    refine j_aload_n C 0 dX9_drive_25 rfl rfl ?_
    refine j_aload_n C 0 dX9_drive_26 rfl rfl ?_
    refine j_gR C f_X9_35 n_50 q_50_7 dX9_drive_27 ?_
    refine j_cS C l_X9_104 [rv G (hR u1 50 7)] [.ref (G.1 + 50)] (fun u2 => some (.ref (G.1 + u2.1))) (fun u2 => u2.2) (fun u2 => [.ref (G.1 + u2.1), .ref (G.1 + 50)]) hm (fun l u hu => c_Water_made hu) rfl (Nat.le_of_ble_eq_true rfl) rfl (Nat.le_of_ble_eq_true rfl) (Nat.le_of_ble_eq_true rfl) (fun _ => rfl) dX9_drive_30 (fun u2 hm => ?_)
    refine j_pR C (o := (some u2.1)) f_X9_35 n_50 q_50_7 dX9_drive_33 ?_
    refine j_aload_n C 0 dX9_drive_36 rfl rfl ?_
    refine j_aload_n C 0 dX9_drive_37 rfl rfl ?_
    refine j_nmH hm (fun h3 hm => ?_)
    refine j_gR C f_X9_35 n_50 q_50_7 dX9_drive_38 ?_
    refine j_aload_n C 0 dX9_drive_41 rfl rfl ?_
    refine j_gS C f_X9_58 n_50 q_50_0 dX9_drive_42 ?_
    refine j_gS C f_X9_90 n_1 q_1_2 dX9_drive_45 ?_
    refine j_bipush C 10 dX9_drive_48 (by decide) ?_
    refine j_iald C n_4 hm dX9_drive_50 (fun hm => ?_)
    refine j_iload_n C 1 dX9_drive_51 rfl rfl ?_
    obtain ⟨r4, c5, hm⟩ := nn_inv hm
    rw [c5]
    change J G X _ _ _ _
    refine j_cV C l_X9_100 [.ref (G.1 + r4), .int (hI h3 4 (ix ((10 : Int32)))), .int v1] [] (fun _ => none) (fun u6 => u6) (fun u6 => []) n_50 hm (fun l u hu => c_Water_run hu) rfl (Nat.le_of_ble_eq_true rfl) rfl (Nat.le_of_ble_eq_true rfl) (Nat.le_of_ble_eq_true rfl) (fun _ => rfl) dX9_drive_52 (fun u6 hm => ?_)
    refine j_aload_n C 0 dX9_drive_55 rfl rfl ?_
    refine j_iload_n C 1 dX9_drive_56 rfl rfl ?_
    refine j_pI C f_X9_51 n_50 dX9_drive_57 ?_
    refine j_aload_n C 0 dX9_drive_60 rfl rfl ?_
    refine j_nmH hm (fun h7 hm => ?_)
    refine j_gS C f_X9_25 n_50 q_50_4 dX9_drive_61 ?_
    refine j_iload_n C 1 dX9_drive_64 rfl rfl ?_
    refine j_aload_n C 0 dX9_drive_65 rfl rfl ?_
    refine j_iload_n C 1 dX9_drive_66 rfl rfl ?_
    refine j_cV C l_X9_108 [.int v1] [.int v1, .ref (G.1 + 56)] (fun u8 => some (.long u8)) (fun _ => h7) (fun u8 => [.long u8, .int v1, .ref (G.1 + 56)]) n_50 hm (fun l u hu => c_Water_takenFromDriven hu) rfl (Nat.le_of_ble_eq_true rfl) rfl (Nat.le_of_ble_eq_true rfl) (Nat.le_of_ble_eq_true rfl) (fun _ => rfl) dX9_drive_67 (fun u8 hm => ?_)
    refine j_last C n_56 hm dX9_drive_70 (fun hm => ?_)
    refine j_sub (L' := []) [] rfl ?_
    exact w_Water_drive_71 C O hm
theorem c_Water_drive {G : jG} {l : Launch} {v1 : Int32} {h : Hp} {out : Hp} (hm : s_Water_drive v1 h = some out) : mt G l yX9_drive cX9_drive 2 (none) 6 210 [.ref (G.1 + 50), .int v1] h none out :=
  mt_of (by decide) (Nat.le_of_ble_eq_true rfl) _ rfl (fun X I C O => w_Water_drive C O hm)
noncomputable def s_Water_bestTurbines_75 (v1 : Int32) (h : Hp) : Option ((Int32 × Hp) ⊕ (Int32 × Hp)) :=
  some (.inl ((v1 + (1 : Int32)), h))
noncomputable def s_Water_bestTurbines_51 (v1 : Int32) (h : Hp) : Option ((Int32 × Hp) ⊕ (Int32 × Hp)) :=
  ib v1 21 <| ib (hI h 50 13) 21 <| if (lg_cmp (hL h 56 (ix v1)) (hL h 56 (ix (hI h 50 13)))) ≤ 0 then
    s_Water_bestTurbines_75 v1 h
  else
    s_Water_bestTurbines_75 v1 (sI h 50 13 v1)
noncomputable def s_Water_bestTurbines_27 (v1 : Int32) (h : Hp) : Option ((Int32 × Hp) ⊕ (Int32 × Hp)) :=
  if ((20 : Int32)) < v1 then
    some (.inr (hI h 50 13, h))
  else
    ib v1 21 <| if (lg_cmp (hL h 56 (ix v1)) ((-1 : Int64))) = 0 then
      (s_Water_drive v1 h).bind fun u1 => s_Water_bestTurbines_51 v1 u1
    else
      s_Water_bestTurbines_51 v1 h
noncomputable def s_Water_bestTurbines (h : Hp) : Option (Int32 × Hp) :=
  if (hI h 50 13) = ((-1 : Int32)) then
    ib ((0 : Int32)) 21 <| lp (fun q => s_Water_bestTurbines_27 q.1 q.2) (((1 : Int32)), (sI (sL h 56 (ix ((0 : Int32))) ((0 : Int64))) 50 13 ((0 : Int32))))
  else
    some (hI h 50 13, h)
def O_Water_bestTurbines (G : jG) (X : jX) (out : (Int32 × Hp)) : Prop := jO G X (some .int) (some (.int out.1)) out.2
def P_Water_bestTurbines_27 (G : jG) (X : jX) (q : Int32 × Hp) : Prop := J G X 27 [(0, .ref (G.1 + 50)), (1, .int q.1)] [] q.2
def O_Water_bestTurbines_27 (G : jG) (X : jX) (t : ((Int32 × Hp) ⊕ (Int32 × Hp))) : Prop := Sum.elim (P_Water_bestTurbines_27 G X) (O_Water_bestTurbines G X) t
theorem w_Water_bestTurbines_75 {G : jG} {X : jX} (C : jC G X cX9_bestTurbines 2 RX9 7 231) {v1 : Int32} {h : Hp} {out : ((Int32 × Hp) ⊕ (Int32 × Hp))} (O : (O_Water_bestTurbines_27 G X) out) (hm : s_Water_bestTurbines_75 v1 h = some out) : J G X 75 [(0, .ref (G.1 + 50)), (1, .int v1)] [] h := by
  unfold s_Water_bestTurbines_75 at hm
  refine j_iinc C 1 [(1, .int (v1 + (1 : Int32))), (0, .ref (G.1 + 50))] dX9_bestTurbines_75 rfl (add_lit (by decide)) (by decide) rfl ?_
  refine j_goto C 27 dX9_bestTurbines_78 (by decide) ?_
  obtain rfl := Option.some.inj hm
  refine j_sub (L' := [(0, .ref (G.1 + 50)), (1, .int (v1 + (1 : Int32)))]) [1, 0] rfl ?_
  exact O
theorem w_Water_bestTurbines_51 {G : jG} {X : jX} (C : jC G X cX9_bestTurbines 2 RX9 7 231) {v1 : Int32} {h : Hp} {out : ((Int32 × Hp) ⊕ (Int32 × Hp))} (O : (O_Water_bestTurbines_27 G X) out) (hm : s_Water_bestTurbines_51 v1 h = some out) : J G X 51 [(0, .ref (G.1 + 50)), (1, .int v1)] [] h := by
  unfold s_Water_bestTurbines_51 at hm
  refine j_aload_n C 0 dX9_bestTurbines_51 rfl rfl ?_
  refine j_gS C f_X9_25 n_50 q_50_4 dX9_bestTurbines_52 ?_
  refine j_iload_n C 1 dX9_bestTurbines_55 rfl rfl ?_
  refine j_lald C n_56 hm dX9_bestTurbines_56 (fun hm => ?_)
  refine j_aload_n C 0 dX9_bestTurbines_57 rfl rfl ?_
  refine j_gS C f_X9_25 n_50 q_50_4 dX9_bestTurbines_58 ?_
  refine j_aload_n C 0 dX9_bestTurbines_61 rfl rfl ?_
  refine j_gI C f_X9_55 n_50 dX9_bestTurbines_62 ?_
  refine j_lald C n_56 hm dX9_bestTurbines_65 (fun hm => ?_)
  refine j_lcmp C dX9_bestTurbines_66 ?_
  refine j_ifle C 75 dX9_bestTurbines_67 (by decide) hm (fun hm => ?_) (fun hm => ?_)
  · refine j_sub (L' := [(0, .ref (G.1 + 50)), (1, .int v1)]) [0, 1] rfl ?_
    exact w_Water_bestTurbines_75 C O hm
  · refine j_aload_n C 0 dX9_bestTurbines_70 rfl rfl ?_
    refine j_iload_n C 1 dX9_bestTurbines_71 rfl rfl ?_
    refine j_pI C f_X9_55 n_50 dX9_bestTurbines_72 ?_
    refine j_sub (L' := [(0, .ref (G.1 + 50)), (1, .int v1)]) [0, 1] rfl ?_
    exact w_Water_bestTurbines_75 C O hm
theorem w_Water_bestTurbines_27 {G : jG} {X : jX} (C : jC G X cX9_bestTurbines 2 RX9 7 231) {v1 : Int32} {h : Hp} {out : ((Int32 × Hp) ⊕ (Int32 × Hp))} (O : (O_Water_bestTurbines_27 G X) out) (hm : s_Water_bestTurbines_27 v1 h = some out) : J G X 27 [(0, .ref (G.1 + 50)), (1, .int v1)] [] h := by
  unfold s_Water_bestTurbines_27 at hm
  refine j_iload_n C 1 dX9_bestTurbines_27 rfl rfl ?_
  refine j_bipush C 20 dX9_bestTurbines_28 (by decide) ?_
  refine j_if_icmpgt C 81 dX9_bestTurbines_30 (by decide) hm (fun hm => ?_) (fun hm => ?_)
  · refine j_aload_n C 0 dX9_bestTurbines_81 rfl rfl ?_
    refine j_gI C f_X9_55 n_50 dX9_bestTurbines_82 ?_
    obtain rfl := Option.some.inj hm
    exact j_iret C O dX9_bestTurbines_85
  · refine j_aload_n C 0 dX9_bestTurbines_33 rfl rfl ?_
    refine j_gS C f_X9_25 n_50 q_50_4 dX9_bestTurbines_34 ?_
    refine j_iload_n C 1 dX9_bestTurbines_37 rfl rfl ?_
    refine j_lald C n_56 hm dX9_bestTurbines_38 (fun hm => ?_)
    refine j_ldc2 C wd_336 dX9_bestTurbines_39 ?_
    refine j_lcmp C dX9_bestTurbines_42 ?_
    refine j_ifne C 51 dX9_bestTurbines_43 (by decide) hm (fun hm => ?_) (fun hm => ?_)
    · refine j_aload_n C 0 dX9_bestTurbines_46 rfl rfl ?_
      refine j_iload_n C 1 dX9_bestTurbines_47 rfl rfl ?_
      refine j_cV C l_X9_169 [.int v1] [] (fun _ => none) (fun u1 => u1) (fun u1 => []) n_50 hm (fun l u hu => c_Water_drive hu) rfl (Nat.le_of_ble_eq_true rfl) rfl (Nat.le_of_ble_eq_true rfl) (Nat.le_of_ble_eq_true rfl) (fun _ => rfl) dX9_bestTurbines_48 (fun u1 hm => ?_)
      refine j_sub (L' := [(0, .ref (G.1 + 50)), (1, .int v1)]) [0, 1] rfl ?_
      exact w_Water_bestTurbines_51 C O hm
    · refine j_sub (L' := [(0, .ref (G.1 + 50)), (1, .int v1)]) [0, 1] rfl ?_
      exact w_Water_bestTurbines_51 C O hm
theorem k_Water_bestTurbines_27 {G : jG} {X : jX} (C : jC G X cX9_bestTurbines 2 RX9 7 231) {v1 : Int32} {h : Hp} {out : (Int32 × Hp)} (O : (O_Water_bestTurbines G X) out) (hm : lp (fun q => s_Water_bestTurbines_27 q.1 q.2) (v1, h) = some out) : J G X 27 [(0, .ref (G.1 + 50)), (1, .int v1)] [] h :=
  lp_ok (P := P_Water_bestTurbines_27 G X) (O := (O_Water_bestTurbines G X)) (fun q r hm O => w_Water_bestTurbines_27 C O hm) hm O
theorem w_Water_bestTurbines {G : jG} {X : jX} (C : jC G X cX9_bestTurbines 2 RX9 7 231) {h : Hp} {out : (Int32 × Hp)} (O : (O_Water_bestTurbines G X) out) (hm : s_Water_bestTurbines h = some out) : J G X 0 [(0, .ref (G.1 + 50))] [] h := by
  unfold s_Water_bestTurbines at hm
  refine j_aload_n C 0 dX9_bestTurbines_0 rfl rfl ?_
  refine j_gI C f_X9_55 n_50 dX9_bestTurbines_1 ?_
  refine j_iconst C (-1 : Int32) dX9_bestTurbines_4 (by decide) ?_
  refine j_if_icmpeq C 13 dX9_bestTurbines_5 (by decide) hm (fun hm => ?_) (fun hm => ?_)
  · refine j_aload_n C 0 dX9_bestTurbines_13 rfl rfl ?_
    refine j_gS C f_X9_25 n_50 q_50_4 dX9_bestTurbines_14 ?_
    refine j_iconst C 0 dX9_bestTurbines_17 (by decide) ?_
    refine j_lconst C 0 dX9_bestTurbines_18 (by decide) ?_
    refine j_last C n_56 hm dX9_bestTurbines_19 (fun hm => ?_)
    refine j_aload_n C 0 dX9_bestTurbines_20 rfl rfl ?_
    refine j_iconst C 0 dX9_bestTurbines_21 (by decide) ?_
    refine j_pI C f_X9_55 n_50 dX9_bestTurbines_22 ?_
    refine j_iconst C 1 dX9_bestTurbines_25 (by decide) ?_
    refine j_istore_n C [(1, .int ((1 : Int32))), (0, .ref (G.1 + 50))] dX9_bestTurbines_26 rfl (by decide) rfl ?_
    refine j_sub (L' := [(0, .ref (G.1 + 50)), (1, .int ((1 : Int32)))]) [1, 0] rfl ?_
    exact k_Water_bestTurbines_27 C O hm
  · refine j_aload_n C 0 dX9_bestTurbines_8 rfl rfl ?_
    refine j_gI C f_X9_55 n_50 dX9_bestTurbines_9 ?_
    obtain rfl := Option.some.inj hm
    exact j_iret C O dX9_bestTurbines_12
theorem c_Water_bestTurbines {G : jG} {l : Launch} {h : Hp} {out : (Int32 × Hp)} (hm : s_Water_bestTurbines h = some out) : mt G l yX9_bestTurbines cX9_bestTurbines 2 (some .int) 7 231 [.ref (G.1 + 50)] h (some (.int out.1)) out.2 :=
  mt_of (by decide) (Nat.le_of_ble_eq_true rfl) _ rfl (fun X I C O => w_Water_bestTurbines C O hm)
noncomputable def s_Race_most_24 (h : Hp) : Option (Int32 × Hp) :=
  some ((-100000 : Int32), h)
noncomputable def s_Race_most (v1 : Int32) (v2 : Int32) (h : Hp) : Option (Int32 × Hp) :=
  if v1 = 0 then
    (s_Water_bestTurbines h).bind fun u7 => some (u7.1, u7.2)
  else
    if v1 = ((1 : Int32)) then
      (s_Race_isMinute v2 h).bind fun u1 => if u1 = 0 then
        s_Race_most_24 h
      else
        (s_Water_bestTurbines h).bind fun u2 => (s_Water_drive u2.1 u2.2).bind fun u3 => nn (hR u3 50 7) fun r4 => ak u3 r4 0 <| ib v2 (ln u3 r4) <| some (hI u3 r4 (ix v2), u3)
    else
      s_Race_most_24 h
def O_Race_most (G : jG) (X : jX) (out : (Int32 × Hp)) : Prop := jO G X (some .int) (some (.int out.1)) out.2
theorem w_Race_most_24 {G : jG} {X : jX} (C : jC G X cX11_most 3 RX11 8 252) {h : Hp} {out : (Int32 × Hp)} (O : (O_Race_most G X) out) (hm : s_Race_most_24 h = some out) : J G X 24 [] [] h := by
  unfold s_Race_most_24 at hm
  refine j_ldc C wd_874 dX11_most_24 ?_
  obtain rfl := Option.some.inj hm
  exact j_iret C O dX11_most_26
theorem w_Race_most {G : jG} {X : jX} (C : jC G X cX11_most 3 RX11 8 252) {v1 : Int32} {v2 : Int32} {h : Hp} {out : (Int32 × Hp)} (O : (O_Race_most G X) out) (hm : s_Race_most v1 v2 h = some out) : J G X 0 [(0, .ref (G.1 + 0)), (1, .int v1), (2, .int v2)] [] h := by
  unfold s_Race_most at hm
  refine j_iload_n C 1 dX11_most_0 rfl rfl ?_
  refine j_ifne C 12 dX11_most_1 (by decide) hm (fun hm => ?_) (fun hm => ?_)
  · refine j_aload_n C 0 dX11_most_4 rfl rfl ?_
    refine j_gS C f_X11_45 n_0 q_0_5 dX11_most_5 ?_
    refine j_cV C l_X11_307 [] [] (fun u7 => some (.int u7.1)) (fun u7 => u7.2) (fun u7 => [.int u7.1]) n_50 hm (fun l u hu => c_Water_bestTurbines hu) rfl (Nat.le_of_ble_eq_true rfl) rfl (Nat.le_of_ble_eq_true rfl) (Nat.le_of_ble_eq_true rfl) (fun _ => rfl) dX11_most_8 (fun u7 hm => ?_)
    obtain rfl := Option.some.inj hm
    exact j_iret C O dX11_most_11
  · refine j_iload_n C 1 dX11_most_12 rfl rfl ?_
    refine j_iconst C 1 dX11_most_13 (by decide) ?_
    refine j_if_icmpne C 24 dX11_most_14 (by decide) hm (fun hm => ?_) (fun hm => ?_)
    · refine j_iload_n C 2 dX11_most_17 rfl rfl ?_
      refine j_cS C l_X11_184 [.int v2] [] (fun u1 => some (.int u1)) (fun _ => h) (fun u1 => [.int u1]) hm (fun l u hu => c_Race_isMinute hu) rfl (Nat.le_of_ble_eq_true rfl) rfl (Nat.le_of_ble_eq_true rfl) (Nat.le_of_ble_eq_true rfl) (fun _ => rfl) dX11_most_18 (fun u1 hm => ?_)
      refine j_ifne C 27 dX11_most_21 (by decide) hm (fun hm => ?_) (fun hm => ?_)
      · refine j_sub (L' := []) [] rfl ?_
        exact w_Race_most_24 C O hm
      · refine j_aload_n C 0 dX11_most_27 rfl rfl ?_
        refine j_gS C f_X11_45 n_0 q_0_5 dX11_most_28 ?_
        refine j_aload_n C 0 dX11_most_31 rfl rfl ?_
        refine j_gS C f_X11_45 n_0 q_0_5 dX11_most_32 ?_
        refine j_cV C l_X11_307 [] [.ref (G.1 + 50)] (fun u2 => some (.int u2.1)) (fun u2 => u2.2) (fun u2 => [.int u2.1, .ref (G.1 + 50)]) n_50 hm (fun l u hu => c_Water_bestTurbines hu) rfl (Nat.le_of_ble_eq_true rfl) rfl (Nat.le_of_ble_eq_true rfl) (Nat.le_of_ble_eq_true rfl) (fun _ => rfl) dX11_most_35 (fun u2 hm => ?_)
        refine j_cV C l_X11_311 [.int u2.1] [] (fun _ => none) (fun u3 => u3) (fun u3 => []) n_50 hm (fun l u hu => c_Water_drive hu) rfl (Nat.le_of_ble_eq_true rfl) rfl (Nat.le_of_ble_eq_true rfl) (Nat.le_of_ble_eq_true rfl) (fun _ => rfl) dX11_most_38 (fun u3 hm => ?_)
        refine j_aload_n C 0 dX11_most_41 rfl rfl ?_
        refine j_gS C f_X11_45 n_0 q_0_5 dX11_most_42 ?_
        refine j_gR C f_X11_314 n_50 q_50_7 dX11_most_45 ?_
        refine j_iload_n C 2 dX11_most_48 rfl rfl ?_
        obtain ⟨r4, c5, hm⟩ := nn_inv hm
        rw [c5]
        change J G X _ _ _ _
        obtain ⟨c6, hm⟩ := ak_inv hm
        refine j_iald C c6 hm dX11_most_49 (fun hm => ?_)
        obtain rfl := Option.some.inj hm
        exact j_iret C O dX11_most_50
    · refine j_sub (L' := []) [] rfl ?_
      exact w_Race_most_24 C O hm
theorem c_Race_most {G : jG} {l : Launch} {v1 : Int32} {v2 : Int32} {h : Hp} {out : (Int32 × Hp)} (hm : s_Race_most v1 v2 h = some out) : mt G l yX11_most cX11_most 3 (some .int) 8 252 [.ref (G.1 + 0), .int v1, .int v2] h (some (.int out.1)) out.2 :=
  mt_of (by decide) (Nat.le_of_ble_eq_true rfl) _ rfl (fun X I C O => w_Race_most C O hm)
noncomputable def s_Race_move (v1 : Int32) (h : Hp) : Option (Int32 × Hp) :=
  (s_Race_isWithin v1 ((0 : Int32)) ((4 : Int32)) h).bind fun u1 => if u1 = 0 then
    (s_Race_refuse ((-1 : Int32)) h).bind fun u6 => some (u6.1, u6.2)
  else
    if (hI h 1 16) < ((40 : Int32)) then
      ib (hI h 1 16) 40 <| lt (sI h 9 (ix (hI h 1 16)) v1) fun h2 => lt (sI h2 1 16 ((hI h2 1 16) + ((1 : Int32)))) fun h3 => (s_Race_grant (hI h3 1 16) h3).bind fun u4 => some (u4.1, u4.2)
    else
      (s_Race_refuse ((-5 : Int32)) h).bind fun u5 => some (u5.1, u5.2)
def O_Race_move (G : jG) (X : jX) (out : (Int32 × Hp)) : Prop := jO G X (some .int) (some (.int out.1)) out.2
theorem w_Race_move {G : jG} {X : jX} (C : jC G X cX11_move 2 RX11 2 92) {v1 : Int32} {h : Hp} {out : (Int32 × Hp)} (O : (O_Race_move G X) out) (hm : s_Race_move v1 h = some out) : J G X 0 [(0, .ref (G.1 + 0)), (1, .int v1)] [] h := by
  unfold s_Race_move at hm
  refine j_iload_n C 1 dX11_move_0 rfl rfl ?_
  refine j_iconst C 0 dX11_move_1 (by decide) ?_
  refine j_iconst C 4 dX11_move_2 (by decide) ?_
  refine j_cS C l_X11_102 [.int v1, .int ((0 : Int32)), .int ((4 : Int32))] [] (fun u1 => some (.int u1)) (fun _ => h) (fun u1 => [.int u1]) hm (fun l u hu => c_Race_isWithin hu) rfl (Nat.le_of_ble_eq_true rfl) rfl (Nat.le_of_ble_eq_true rfl) (Nat.le_of_ble_eq_true rfl) (fun _ => rfl) dX11_move_3 (fun u1 hm => ?_)
  refine j_ifne C 15 dX11_move_6 (by decide) hm (fun hm => ?_) (fun hm => ?_)
  · refine j_aload_n C 0 dX11_move_9 rfl rfl ?_
    refine j_iconst C (-1 : Int32) dX11_move_10 (by decide) ?_
    refine j_cV C l_X11_112 [.int ((-1 : Int32))] [] (fun u6 => some (.int u6.1)) (fun u6 => u6.2) (fun u6 => [.int u6.1]) n_0 hm (fun l u hu => c_Race_refuse hu) rfl (Nat.le_of_ble_eq_true rfl) rfl (Nat.le_of_ble_eq_true rfl) (Nat.le_of_ble_eq_true rfl) (fun _ => rfl) dX11_move_11 (fun u6 hm => ?_)
    obtain rfl := Option.some.inj hm
    exact j_iret C O dX11_move_14
  · refine j_aload_n C 0 dX11_move_15 rfl rfl ?_
    refine j_gS C f_X11_10 n_0 q_0_0 dX11_move_16 ?_
    refine j_gI C f_X11_261 n_1 dX11_move_19 ?_
    refine j_bipush C 40 dX11_move_22 (by decide) ?_
    refine j_if_icmplt C 34 dX11_move_24 (by decide) hm (fun hm => ?_) (fun hm => ?_)
    · refine j_aload_n C 0 dX11_move_34 rfl rfl ?_
      refine j_gS C f_X11_10 n_0 q_0_0 dX11_move_35 ?_
      refine j_gS C f_X11_264 n_1 q_1_7 dX11_move_38 ?_
      refine j_aload_n C 0 dX11_move_41 rfl rfl ?_
      refine j_gS C f_X11_10 n_0 q_0_0 dX11_move_42 ?_
      refine j_gI C f_X11_261 n_1 dX11_move_45 ?_
      refine j_iload_n C 1 dX11_move_48 rfl rfl ?_
      refine j_iast C n_9 hm dX11_move_49 (fun hm => ?_)
      refine j_aload_n C 0 dX11_move_50 rfl rfl ?_
      refine j_nmH hm (fun h2 hm => ?_)
      refine j_gS C f_X11_10 n_0 q_0_0 dX11_move_51 ?_
      refine j_dup C dX11_move_54 rfl ?_
      refine j_gI C f_X11_261 n_1 dX11_move_55 ?_
      refine j_iconst C 1 dX11_move_58 (by decide) ?_
      refine j_iadd C dX11_move_59 ?_
      refine j_pI C f_X11_261 n_1 dX11_move_60 ?_
      refine j_aload_n C 0 dX11_move_63 rfl rfl ?_
      refine j_aload_n C 0 dX11_move_64 rfl rfl ?_
      refine j_nmH hm (fun h3 hm => ?_)
      refine j_gS C f_X11_10 n_0 q_0_0 dX11_move_65 ?_
      refine j_gI C f_X11_261 n_1 dX11_move_68 ?_
      refine j_cV C l_X11_122 [.int (hI h3 1 16)] [] (fun u4 => some (.int u4.1)) (fun u4 => u4.2) (fun u4 => [.int u4.1]) n_0 hm (fun l u hu => c_Race_grant hu) rfl (Nat.le_of_ble_eq_true rfl) rfl (Nat.le_of_ble_eq_true rfl) (Nat.le_of_ble_eq_true rfl) (fun _ => rfl) dX11_move_71 (fun u4 hm => ?_)
      obtain rfl := Option.some.inj hm
      exact j_iret C O dX11_move_74
    · refine j_aload_n C 0 dX11_move_27 rfl rfl ?_
      refine j_bipush C (-5 : Int32) dX11_move_28 (by decide) ?_
      refine j_cV C l_X11_112 [.int ((-5 : Int32))] [] (fun u5 => some (.int u5.1)) (fun u5 => u5.2) (fun u5 => [.int u5.1]) n_0 hm (fun l u hu => c_Race_refuse hu) rfl (Nat.le_of_ble_eq_true rfl) rfl (Nat.le_of_ble_eq_true rfl) (Nat.le_of_ble_eq_true rfl) (fun _ => rfl) dX11_move_30 (fun u5 hm => ?_)
      obtain rfl := Option.some.inj hm
      exact j_iret C O dX11_move_33
theorem c_Race_move {G : jG} {l : Launch} {v1 : Int32} {h : Hp} {out : (Int32 × Hp)} (hm : s_Race_move v1 h = some out) : mt G l yX11_move cX11_move 2 (some .int) 2 92 [.ref (G.1 + 0), .int v1] h (some (.int out.1)) out.2 :=
  mt_of (by decide) (Nat.le_of_ble_eq_true rfl) _ rfl (fun X I C O => w_Race_move C O hm)
noncomputable def s_Race_order_78 (s0 : Int32) (h : Hp) : Option (Int32 × Hp) :=
  some (s0, h)
noncomputable def s_Race_order_60 (v1 : Int32) (s0 : Int32) (h : Hp) : Option (Int32 × Hp) :=
  if s0 = 0 then
    s_Race_order_78 ((-1 : Int32)) h
  else
    ib v1 6 <| s_Race_order_78 (hI h 72 (ix v1)) h
noncomputable def s_Race_order_59 (v1 : Int32) (h : Hp) : Option (Int32 × Hp) :=
  s_Race_order_60 v1 ((0 : Int32)) h
noncomputable def s_Race_order (v1 : Int32) (h : Hp) : Option (Int32 × Hp) :=
  (s_Water_freshenToday h).bind fun u1 => (s_Locks_freshen u1).bind fun u2 => if v1 = ((-1 : Int32)) then
    some (hI u2 69 7, u2)
  else
    (s_Race_isWithin v1 ((0 : Int32)) ((hI u2 1 17) - ((1 : Int32))) u2).bind fun u3 => if u3 = 0 then
      s_Race_order_59 v1 u2
    else
      if (hI u2 69 7) = ((-1 : Int32)) then
        s_Race_order_59 v1 u2
      else
        s_Race_order_60 v1 ((1 : Int32)) u2
def O_Race_order (G : jG) (X : jX) (out : (Int32 × Hp)) : Prop := jO G X (some .int) (some (.int out.1)) out.2
theorem w_Race_order_78 {G : jG} {X : jX} (C : jC G X cX11_order 3 RX11 13 399) {s0 : Int32} {h : Hp} {out : (Int32 × Hp)} (O : (O_Race_order G X) out) (hm : s_Race_order_78 s0 h = some out) : J G X 78 [] [.int s0] h := by
  unfold s_Race_order_78 at hm
  obtain rfl := Option.some.inj hm
  exact j_iret C O dX11_order_78
theorem w_Race_order_60 {G : jG} {X : jX} (C : jC G X cX11_order 3 RX11 13 399) {v1 : Int32} {s0 : Int32} {h : Hp} {out : (Int32 × Hp)} (O : (O_Race_order G X) out) (hm : s_Race_order_60 v1 s0 h = some out) : J G X 60 [(0, .ref (G.1 + 0)), (1, .int v1)] [.int s0] h := by
  unfold s_Race_order_60 at hm
  refine j_istore_n C [(2, .int s0), (0, .ref (G.1 + 0)), (1, .int v1)] dX11_order_60 rfl (by decide) rfl ?_
  refine j_iload_n C 0 dX11_order_61 rfl rfl ?_
  refine j_ifeq C 77 dX11_order_62 (by decide) hm (fun hm => ?_) (fun hm => ?_)
  · refine j_iconst C (-1 : Int32) dX11_order_77 (by decide) ?_
    refine j_sub (L' := []) [] rfl ?_
    exact w_Race_order_78 C O hm
  · refine j_aload_n C 1 dX11_order_65 rfl rfl ?_
    refine j_gS C f_X11_61 n_0 q_0_7 dX11_order_66 ?_
    refine j_gS C f_X11_295 n_69 q_69_5 dX11_order_69 ?_
    refine j_iload_n C 2 dX11_order_72 rfl rfl ?_
    refine j_iald C n_72 hm dX11_order_73 (fun hm => ?_)
    refine j_goto C 78 dX11_order_74 (by decide) ?_
    refine j_sub (L' := []) [] rfl ?_
    exact w_Race_order_78 C O hm
theorem w_Race_order_59 {G : jG} {X : jX} (C : jC G X cX11_order 3 RX11 13 399) {v1 : Int32} {h : Hp} {out : (Int32 × Hp)} (O : (O_Race_order G X) out) (hm : s_Race_order_59 v1 h = some out) : J G X 59 [(0, .ref (G.1 + 0)), (1, .int v1)] [] h := by
  unfold s_Race_order_59 at hm
  refine j_iconst C 0 dX11_order_59 (by decide) ?_
  refine j_sub (L' := [(0, .ref (G.1 + 0)), (1, .int v1)]) [0, 1] rfl ?_
  exact w_Race_order_60 C O hm
theorem w_Race_order {G : jG} {X : jX} (C : jC G X cX11_order 3 RX11 13 399) {v1 : Int32} {h : Hp} {out : (Int32 × Hp)} (O : (O_Race_order G X) out) (hm : s_Race_order v1 h = some out) : J G X 0 [(0, .ref (G.1 + 0)), (1, .int v1)] [] h := by
  unfold s_Race_order at hm
  refine j_aload_n C 0 dX11_order_0 rfl rfl ?_
  refine j_gS C f_X11_45 n_0 q_0_5 dX11_order_1 ?_
  refine j_cV C l_X11_194 [] [] (fun _ => none) (fun u1 => u1) (fun u1 => []) n_50 hm (fun l u hu => c_Water_freshenToday hu) rfl (Nat.le_of_ble_eq_true rfl) rfl (Nat.le_of_ble_eq_true rfl) (Nat.le_of_ble_eq_true rfl) (fun _ => rfl) dX11_order_4 (fun u1 hm => ?_)
  refine j_aload_n C 0 dX11_order_7 rfl rfl ?_
  refine j_gS C f_X11_61 n_0 q_0_7 dX11_order_8 ?_
  refine j_cV C l_X11_289 [] [] (fun _ => none) (fun u2 => u2) (fun u2 => []) n_69 hm (fun l u hu => c_Locks_freshen hu) rfl (Nat.le_of_ble_eq_true rfl) rfl (Nat.le_of_ble_eq_true rfl) (Nat.le_of_ble_eq_true rfl) (fun _ => rfl) dX11_order_11 (fun u2 hm => ?_)
  refine j_iload_n C 1 dX11_order_14 rfl rfl ?_
  refine j_iconst C (-1 : Int32) dX11_order_15 (by decide) ?_
  refine j_if_icmpne C 27 dX11_order_16 (by decide) hm (fun hm => ?_) (fun hm => ?_)
  · refine j_aload_n C 0 dX11_order_19 rfl rfl ?_
    refine j_gS C f_X11_61 n_0 q_0_7 dX11_order_20 ?_
    refine j_gI C f_X11_292 n_69 dX11_order_23 ?_
    obtain rfl := Option.some.inj hm
    exact j_iret C O dX11_order_26
  · refine j_iload_n C 1 dX11_order_27 rfl rfl ?_
    refine j_iconst C 0 dX11_order_28 (by decide) ?_
    refine j_aload_n C 0 dX11_order_29 rfl rfl ?_
    refine j_gS C f_X11_10 n_0 q_0_0 dX11_order_30 ?_
    refine j_gI C f_X11_273 n_1 dX11_order_33 ?_
    refine j_iconst C 1 dX11_order_36 (by decide) ?_
    refine j_isub C dX11_order_37 ?_
    refine j_cS C l_X11_102 [.int v1, .int ((0 : Int32)), .int ((hI u2 1 17) - ((1 : Int32)))] [] (fun u3 => some (.int u3)) (fun _ => u2) (fun u3 => [.int u3]) hm (fun l u hu => c_Race_isWithin hu) rfl (Nat.le_of_ble_eq_true rfl) rfl (Nat.le_of_ble_eq_true rfl) (Nat.le_of_ble_eq_true rfl) (fun _ => rfl) dX11_order_38 (fun u3 hm => ?_)
    refine j_ifeq C 59 dX11_order_41 (by decide) hm (fun hm => ?_) (fun hm => ?_)
    · refine j_sub (L' := [(0, .ref (G.1 + 0)), (1, .int v1)]) [0, 1] rfl ?_
      exact w_Race_order_59 C O hm
    · refine j_aload_n C 0 dX11_order_44 rfl rfl ?_
      refine j_gS C f_X11_61 n_0 q_0_7 dX11_order_45 ?_
      refine j_gI C f_X11_292 n_69 dX11_order_48 ?_
      refine j_iconst C (-1 : Int32) dX11_order_51 (by decide) ?_
      refine j_if_icmpeq C 59 dX11_order_52 (by decide) hm (fun hm => ?_) (fun hm => ?_)
      · refine j_sub (L' := [(0, .ref (G.1 + 0)), (1, .int v1)]) [0, 1] rfl ?_
        exact w_Race_order_59 C O hm
      · refine j_iconst C 1 dX11_order_55 (by decide) ?_
        refine j_goto C 60 dX11_order_56 (by decide) ?_
        refine j_sub (L' := [(0, .ref (G.1 + 0)), (1, .int v1)]) [0, 1] rfl ?_
        exact w_Race_order_60 C O hm
theorem c_Race_order {G : jG} {l : Launch} {v1 : Int32} {h : Hp} {out : (Int32 × Hp)} (hm : s_Race_order v1 h = some out) : mt G l yX11_order cX11_order 3 (some .int) 13 399 [.ref (G.1 + 0), .int v1] h (some (.int out.1)) out.2 :=
  mt_of (by decide) (Nat.le_of_ble_eq_true rfl) _ rfl (fun X I C O => w_Race_order C O hm)
noncomputable def s_Race_right_14 (h : Hp) : Option (Int32 × Hp) :=
  some ((-1 : Int32), h)
noncomputable def s_Race_right (v1 : Int32) (v2 : Int32) (h : Hp) : Option (Int32 × Hp) :=
  (s_Race_isMinute v1 h).bind fun u1 => if u1 = 0 then
    s_Race_right_14 h
  else
    (s_Race_isMinute v2 h).bind fun u2 => if u2 = 0 then
      s_Race_right_14 h
    else
      (s_Water_freshenToday h).bind fun u3 => (s_Rule_freshen u3).bind fun u4 => (s_Rule_rightBy v1 v2 u4).bind fun u5 => some (u5, u4)
def O_Race_right (G : jG) (X : jX) (out : (Int32 × Hp)) : Prop := jO G X (some .int) (some (.int out.1)) out.2
theorem w_Race_right_14 {G : jG} {X : jX} (C : jC G X cX11_right 3 RX11 7 230) {h : Hp} {out : (Int32 × Hp)} (O : (O_Race_right G X) out) (hm : s_Race_right_14 h = some out) : J G X 14 [] [] h := by
  unfold s_Race_right_14 at hm
  refine j_iconst C (-1 : Int32) dX11_right_14 (by decide) ?_
  obtain rfl := Option.some.inj hm
  exact j_iret C O dX11_right_15
theorem w_Race_right {G : jG} {X : jX} (C : jC G X cX11_right 3 RX11 7 230) {v1 : Int32} {v2 : Int32} {h : Hp} {out : (Int32 × Hp)} (O : (O_Race_right G X) out) (hm : s_Race_right v1 v2 h = some out) : J G X 0 [(0, .ref (G.1 + 0)), (1, .int v1), (2, .int v2)] [] h := by
  unfold s_Race_right at hm
  refine j_iload_n C 1 dX11_right_0 rfl rfl ?_
  refine j_cS C l_X11_184 [.int v1] [] (fun u1 => some (.int u1)) (fun _ => h) (fun u1 => [.int u1]) hm (fun l u hu => c_Race_isMinute hu) rfl (Nat.le_of_ble_eq_true rfl) rfl (Nat.le_of_ble_eq_true rfl) (Nat.le_of_ble_eq_true rfl) (fun _ => rfl) dX11_right_1 (fun u1 hm => ?_)
  refine j_ifeq C 14 dX11_right_4 (by decide) hm (fun hm => ?_) (fun hm => ?_)
  · refine j_sub (L' := []) [] rfl ?_
    exact w_Race_right_14 C O hm
  · refine j_iload_n C 2 dX11_right_7 rfl rfl ?_
    refine j_cS C l_X11_184 [.int v2] [] (fun u2 => some (.int u2)) (fun _ => h) (fun u2 => [.int u2]) hm (fun l u hu => c_Race_isMinute hu) rfl (Nat.le_of_ble_eq_true rfl) rfl (Nat.le_of_ble_eq_true rfl) (Nat.le_of_ble_eq_true rfl) (fun _ => rfl) dX11_right_8 (fun u2 hm => ?_)
    refine j_ifne C 16 dX11_right_11 (by decide) hm (fun hm => ?_) (fun hm => ?_)
    · refine j_sub (L' := []) [] rfl ?_
      exact w_Race_right_14 C O hm
    · refine j_aload_n C 0 dX11_right_16 rfl rfl ?_
      refine j_gS C f_X11_45 n_0 q_0_5 dX11_right_17 ?_
      refine j_cV C l_X11_194 [] [] (fun _ => none) (fun u3 => u3) (fun u3 => []) n_50 hm (fun l u hu => c_Water_freshenToday hu) rfl (Nat.le_of_ble_eq_true rfl) rfl (Nat.le_of_ble_eq_true rfl) (Nat.le_of_ble_eq_true rfl) (fun _ => rfl) dX11_right_20 (fun u3 hm => ?_)
      refine j_aload_n C 0 dX11_right_23 rfl rfl ?_
      refine j_gS C f_X11_77 n_0 q_0_9 dX11_right_24 ?_
      refine j_cV C l_X11_352 [] [] (fun _ => none) (fun u4 => u4) (fun u4 => []) n_78 hm (fun l u hu => c_Rule_freshen hu) rfl (Nat.le_of_ble_eq_true rfl) rfl (Nat.le_of_ble_eq_true rfl) (Nat.le_of_ble_eq_true rfl) (fun _ => rfl) dX11_right_27 (fun u4 hm => ?_)
      refine j_aload_n C 0 dX11_right_30 rfl rfl ?_
      refine j_gS C f_X11_77 n_0 q_0_9 dX11_right_31 ?_
      refine j_iload_n C 1 dX11_right_34 rfl rfl ?_
      refine j_iload_n C 2 dX11_right_35 rfl rfl ?_
      refine j_cV C l_X11_353 [.int v1, .int v2] [] (fun u5 => some (.int u5)) (fun _ => u4) (fun u5 => [.int u5]) n_78 hm (fun l u hu => c_Rule_rightBy hu) rfl (Nat.le_of_ble_eq_true rfl) rfl (Nat.le_of_ble_eq_true rfl) (Nat.le_of_ble_eq_true rfl) (fun _ => rfl) dX11_right_36 (fun u5 hm => ?_)
      obtain rfl := Option.some.inj hm
      exact j_iret C O dX11_right_39
theorem c_Race_right {G : jG} {l : Launch} {v1 : Int32} {v2 : Int32} {h : Hp} {out : (Int32 × Hp)} (hm : s_Race_right v1 v2 h = some out) : mt G l yX11_right cX11_right 3 (some .int) 7 230 [.ref (G.1 + 0), .int v1, .int v2] h (some (.int out.1)) out.2 :=
  mt_of (by decide) (Nat.le_of_ble_eq_true rfl) _ rfl (fun X I C O => w_Race_right C O hm)
noncomputable def s_Race_row_73 (v1 : Int32) (v2 : Int32) (h : Hp) : Option ((Int32 × Int32 × Hp) ⊕ (Int32 × Hp)) :=
  some (.inl (v1, (v2 + (1 : Int32)), h))
noncomputable def s_Race_row_21 (v1 : Int32) (v2 : Int32) (h : Hp) : Option ((Int32 × Int32 × Hp) ⊕ (Int32 × Hp)) :=
  if (hI h 45 1) ≤ v2 then
    lt (sI h 0 13 ((hI h 45 1) - v1)) fun h1 => (s_Race_grant v1 (sI h1 45 1 ((0 : Int32)))).bind fun u2 => some (.inr (u2.1, u2.2))
  else
    if ((50 : Int32)) ≤ v2 then
      s_Race_row_73 v1 v2 h
    else
      ib v2 400 <| if ((6 : Int32)) ≤ (hI h 46 (ix v2)) then
        s_Race_row_73 v1 v2 h
      else
        ib v2 400 <| ib v2 50 <| s_Race_row_73 (v1 + (1 : Int32)) v2 (sI h 5 (ix v2) (hI h 46 (ix v2)))
noncomputable def s_Race_row (h : Hp) : Option (Int32 × Hp) :=
  if (hI h 45 1) = 0 then
    (s_Race_refuse ((-6 : Int32)) h).bind fun u1 => some (u1.1, u1.2)
  else
    lp (fun q => s_Race_row_21 q.1 q.2.1 q.2.2) (((0 : Int32)), ((0 : Int32)), h)
def O_Race_row (G : jG) (X : jX) (out : (Int32 × Hp)) : Prop := jO G X (some .int) (some (.int out.1)) out.2
def P_Race_row_21 (G : jG) (X : jX) (q : Int32 × Int32 × Hp) : Prop := J G X 21 [(0, .ref (G.1 + 0)), (1, .int q.1), (2, .int q.2.1)] [] q.2.2
def O_Race_row_21 (G : jG) (X : jX) (t : ((Int32 × Int32 × Hp) ⊕ (Int32 × Hp))) : Prop := Sum.elim (P_Race_row_21 G X) (O_Race_row G X) t
theorem w_Race_row_73 {G : jG} {X : jX} (C : jC G X cX11_row 3 RX11 2 92) {v1 : Int32} {v2 : Int32} {h : Hp} {out : ((Int32 × Int32 × Hp) ⊕ (Int32 × Hp))} (O : (O_Race_row_21 G X) out) (hm : s_Race_row_73 v1 v2 h = some out) : J G X 73 [(0, .ref (G.1 + 0)), (1, .int v1), (2, .int v2)] [] h := by
  unfold s_Race_row_73 at hm
  refine j_iinc C 2 [(2, .int (v2 + (1 : Int32))), (0, .ref (G.1 + 0)), (1, .int v1)] dX11_row_73 rfl (add_lit (by decide)) (by decide) rfl ?_
  refine j_goto C 21 dX11_row_76 (by decide) ?_
  obtain rfl := Option.some.inj hm
  refine j_sub (L' := [(0, .ref (G.1 + 0)), (1, .int v1), (2, .int (v2 + (1 : Int32)))]) [1, 2, 0] rfl ?_
  exact O
theorem w_Race_row_21 {G : jG} {X : jX} (C : jC G X cX11_row 3 RX11 2 92) {v1 : Int32} {v2 : Int32} {h : Hp} {out : ((Int32 × Int32 × Hp) ⊕ (Int32 × Hp))} (O : (O_Race_row_21 G X) out) (hm : s_Race_row_21 v1 v2 h = some out) : J G X 21 [(0, .ref (G.1 + 0)), (1, .int v1), (2, .int v2)] [] h := by
  unfold s_Race_row_21 at hm
  refine j_iload_n C 2 dX11_row_21 rfl rfl ?_
  refine j_aload_n C 0 dX11_row_22 rfl rfl ?_
  refine j_gS C f_X11_27 n_0 q_0_3 dX11_row_23 ?_
  refine j_gI C f_X11_154 n_45 dX11_row_26 ?_
  refine j_if_icmpge C 79 dX11_row_29 (by decide) hm (fun hm => ?_) (fun hm => ?_)
  · refine j_aload_n C 0 dX11_row_79 rfl rfl ?_
    refine j_aload_n C 0 dX11_row_80 rfl rfl ?_
    refine j_gS C f_X11_27 n_0 q_0_3 dX11_row_81 ?_
    refine j_gI C f_X11_154 n_45 dX11_row_84 ?_
    refine j_iload_n C 1 dX11_row_87 rfl rfl ?_
    refine j_isub C dX11_row_88 ?_
    refine j_pI C f_X11_96 n_0 dX11_row_89 ?_
    refine j_aload_n C 0 dX11_row_92 rfl rfl ?_
    refine j_nmH hm (fun h1 hm => ?_)
    refine j_gS C f_X11_27 n_0 q_0_3 dX11_row_93 ?_
    refine j_iconst C 0 dX11_row_96 (by decide) ?_
    refine j_pI C f_X11_154 n_45 dX11_row_97 ?_
    refine j_aload_n C 0 dX11_row_100 rfl rfl ?_
    refine j_iload_n C 1 dX11_row_101 rfl rfl ?_
    refine j_cV C l_X11_122 [.int v1] [] (fun u2 => some (.int u2.1)) (fun u2 => u2.2) (fun u2 => [.int u2.1]) n_0 hm (fun l u hu => c_Race_grant hu) rfl (Nat.le_of_ble_eq_true rfl) rfl (Nat.le_of_ble_eq_true rfl) (Nat.le_of_ble_eq_true rfl) (fun _ => rfl) dX11_row_102 (fun u2 hm => ?_)
    obtain rfl := Option.some.inj hm
    exact j_iret C O dX11_row_105
  · refine j_iload_n C 2 dX11_row_32 rfl rfl ?_
    refine j_bipush C 50 dX11_row_33 (by decide) ?_
    refine j_if_icmpge C 73 dX11_row_35 (by decide) hm (fun hm => ?_) (fun hm => ?_)
    · refine j_sub (L' := [(0, .ref (G.1 + 0)), (1, .int v1), (2, .int v2)]) [0, 1, 2] rfl ?_
      exact w_Race_row_73 C O hm
    · refine j_aload_n C 0 dX11_row_38 rfl rfl ?_
      refine j_gS C f_X11_27 n_0 q_0_3 dX11_row_39 ?_
      refine j_gS C f_X11_161 n_45 q_45_0 dX11_row_42 ?_
      refine j_iload_n C 2 dX11_row_45 rfl rfl ?_
      refine j_iald C n_46 hm dX11_row_46 (fun hm => ?_)
      refine j_bipush C 6 dX11_row_47 (by decide) ?_
      refine j_if_icmpge C 73 dX11_row_49 (by decide) hm (fun hm => ?_) (fun hm => ?_)
      · refine j_sub (L' := [(0, .ref (G.1 + 0)), (1, .int v1), (2, .int v2)]) [0, 1, 2] rfl ?_
        exact w_Race_row_73 C O hm
      · refine j_aload_n C 0 dX11_row_52 rfl rfl ?_
        refine j_gS C f_X11_10 n_0 q_0_0 dX11_row_53 ?_
        refine j_gS C f_X11_164 n_1 q_1_3 dX11_row_56 ?_
        refine j_iload_n C 2 dX11_row_59 rfl rfl ?_
        refine j_aload_n C 0 dX11_row_60 rfl rfl ?_
        refine j_gS C f_X11_27 n_0 q_0_3 dX11_row_61 ?_
        refine j_gS C f_X11_161 n_45 q_45_0 dX11_row_64 ?_
        refine j_iload_n C 2 dX11_row_67 rfl rfl ?_
        refine j_iald C n_46 hm dX11_row_68 (fun hm => ?_)
        refine j_iast C n_5 hm dX11_row_69 (fun hm => ?_)
        refine j_iinc C 1 [(1, .int (v1 + (1 : Int32))), (0, .ref (G.1 + 0)), (2, .int v2)] dX11_row_70 rfl (add_lit (by decide)) (by decide) rfl ?_
        refine j_sub (L' := [(0, .ref (G.1 + 0)), (1, .int (v1 + (1 : Int32))), (2, .int v2)]) [1, 0, 2] rfl ?_
        exact w_Race_row_73 C O hm
theorem k_Race_row_21 {G : jG} {X : jX} (C : jC G X cX11_row 3 RX11 2 92) {v1 : Int32} {v2 : Int32} {h : Hp} {out : (Int32 × Hp)} (O : (O_Race_row G X) out) (hm : lp (fun q => s_Race_row_21 q.1 q.2.1 q.2.2) (v1, v2, h) = some out) : J G X 21 [(0, .ref (G.1 + 0)), (1, .int v1), (2, .int v2)] [] h :=
  lp_ok (P := P_Race_row_21 G X) (O := (O_Race_row G X)) (fun q r hm O => w_Race_row_21 C O hm) hm O
theorem w_Race_row {G : jG} {X : jX} (C : jC G X cX11_row 3 RX11 2 92) {h : Hp} {out : (Int32 × Hp)} (O : (O_Race_row G X) out) (hm : s_Race_row h = some out) : J G X 0 [(0, .ref (G.1 + 0))] [] h := by
  unfold s_Race_row at hm
  refine j_aload_n C 0 dX11_row_0 rfl rfl ?_
  refine j_gS C f_X11_27 n_0 q_0_3 dX11_row_1 ?_
  refine j_gI C f_X11_154 n_45 dX11_row_4 ?_
  refine j_ifne C 17 dX11_row_7 (by decide) hm (fun hm => ?_) (fun hm => ?_)
  · refine j_aload_n C 0 dX11_row_10 rfl rfl ?_
    refine j_bipush C (-6 : Int32) dX11_row_11 (by decide) ?_
    refine j_cV C l_X11_112 [.int ((-6 : Int32))] [] (fun u1 => some (.int u1.1)) (fun u1 => u1.2) (fun u1 => [.int u1.1]) n_0 hm (fun l u hu => c_Race_refuse hu) rfl (Nat.le_of_ble_eq_true rfl) rfl (Nat.le_of_ble_eq_true rfl) (Nat.le_of_ble_eq_true rfl) (fun _ => rfl) dX11_row_13 (fun u1 hm => ?_)
    obtain rfl := Option.some.inj hm
    exact j_iret C O dX11_row_16
  · refine j_iconst C 0 dX11_row_17 (by decide) ?_
    refine j_istore_n C [(1, .int ((0 : Int32))), (0, .ref (G.1 + 0))] dX11_row_18 rfl (by decide) rfl ?_
    refine j_iconst C 0 dX11_row_19 (by decide) ?_
    refine j_istore_n C [(2, .int ((0 : Int32))), (1, .int ((0 : Int32))), (0, .ref (G.1 + 0))] dX11_row_20 rfl (by decide) rfl ?_
    refine j_sub (L' := [(0, .ref (G.1 + 0)), (1, .int ((0 : Int32))), (2, .int ((0 : Int32)))]) [2, 1, 0] rfl ?_
    exact k_Race_row_21 C O hm
theorem c_Race_row {G : jG} {l : Launch} {h : Hp} {out : (Int32 × Hp)} (hm : s_Race_row h = some out) : mt G l yX11_row cX11_row 3 (some .int) 2 92 [.ref (G.1 + 0)] h (some (.int out.1)) out.2 :=
  mt_of (by decide) (Nat.le_of_ble_eq_true rfl) _ rfl (fun X I C O => w_Race_row C O hm)
