noncomputable def s_Reader_readClause_108 (v2 : Int32) (v3 : Int32) (s0 : Int32) (s1 : Int32) (h : Hp) : Option (Int32 × Hp) :=
  ib s1 48 <| lt (sI h 49 (ix s1) s0) fun h1 => ib ((hI h1 47 4) + ((1 : Int32))) 48 <| lt (sI h1 49 (ix ((hI h1 47 4) + ((1 : Int32)))) v2) fun h2 => ib ((hI h2 47 4) + ((2 : Int32))) 48 <| lt (sI h2 49 (ix ((hI h2 47 4) + ((2 : Int32)))) v3) fun h3 => ib ((hI h3 47 4) + ((3 : Int32))) 48 <| lt (sI h3 49 (ix ((hI h3 47 4) + ((3 : Int32)))) (hI h3 47 3)) fun h4 => some ((1 : Int32), sI h4 47 4 ((hI h4 47 4) + ((4 : Int32))))
noncomputable def s_Reader_readClause_72 (v1 : Int32) (v2 : Int32) (v3 : Int32) (h : Hp) : Option (Int32 × Hp) :=
  if (hI h 47 4) ≤ (((48 : Int32)) - ((4 : Int32))) then
    if v1 = 0 then
      s_Reader_readClause_108 v2 v3 ((1 : Int32)) (hI h 47 4) h
    else
      s_Reader_readClause_108 v2 v3 ((0 : Int32)) (hI h 47 4) h
  else
    (s_Reader_fail h).bind fun u1 => bz u1.1 <| some (u1.1, u1.2)
noncomputable def s_Reader_readClause_25 (v1 : Int32) (h : Hp) : Option (Int32 × Hp) :=
  (s_Reader_advance h).bind fun u1 => (s_Reader_readSum ((0 : Int32)) u1).bind fun u2 => if u2.1 = 0 then
    some ((0 : Int32), u2.2)
  else
    (s_Reader_isWord 9 u2.2).bind fun u3 => if u3 = 0 then
      s_Reader_readClause_72 v1 (hI u1 47 3) (hI u2.2 47 3) u2.2
    else
      (s_Reader_advance u2.2).bind fun u4 => (s_Reader_readTest ((0 : Int32)) u4).bind fun u5 => if u5.1 = 0 then
        some ((0 : Int32), u5.2)
      else
        s_Reader_readClause_72 v1 (hI u1 47 3) (hI u2.2 47 3) u5.2
noncomputable def s_Reader_readClause (h : Hp) : Option (Int32 × Hp) :=
  (s_Reader_isWord 0 h).bind fun u1 => if u1 = 0 then
    (s_Reader_isWord 1 h).bind fun u2 => if u2 = 0 then
      (s_Reader_fail h).bind fun u3 => bz u3.1 <| some (u3.1, u3.2)
    else
      s_Reader_readClause_25 u1 h
  else
    s_Reader_readClause_25 u1 h
def O_Reader_readClause (G : jG) (X : jX) (out : (Int32 × Hp)) : Prop := jO G X (some .boolean) (some (.int out.1)) out.2
theorem w_Reader_readClause_108 {G : jG} {X : jX} (C : jC G X cX3_readClause 4 RX3 170 4008) {v2 : Int32} {v3 : Int32} {s0 : Int32} {s1 : Int32} {h : Hp} {out : (Int32 × Hp)} (O : (O_Reader_readClause G X) out) (hm : s_Reader_readClause_108 v2 v3 s0 s1 h = some out) : J G X 108 [(0, .ref (G.1 + 47)), (2, .int v2), (3, .int v3)] [.int s0, .int s1, .ref (G.1 + 49)] h := by
  unfold s_Reader_readClause_108 at hm
  refine j_iast C n_49 hm dX3_readClause_108 (fun hm => ?_)
  refine j_aload_n C 0 dX3_readClause_109 rfl rfl ?_
  refine j_nmH hm (fun h1 hm => ?_)
  refine j_gS C f_X3_17 n_47 q_47_2 dX3_readClause_110 ?_
  refine j_aload_n C 0 dX3_readClause_113 rfl rfl ?_
  refine j_gI C f_X3_24 n_47 dX3_readClause_114 ?_
  refine j_iconst C 1 dX3_readClause_117 (by decide) ?_
  refine j_iadd C dX3_readClause_118 ?_
  refine j_iload_n C 1 dX3_readClause_119 rfl rfl ?_
  refine j_iast C n_49 hm dX3_readClause_120 (fun hm => ?_)
  refine j_aload_n C 0 dX3_readClause_121 rfl rfl ?_
  refine j_nmH hm (fun h2 hm => ?_)
  refine j_gS C f_X3_17 n_47 q_47_2 dX3_readClause_122 ?_
  refine j_aload_n C 0 dX3_readClause_125 rfl rfl ?_
  refine j_gI C f_X3_24 n_47 dX3_readClause_126 ?_
  refine j_iconst C 2 dX3_readClause_129 (by decide) ?_
  refine j_iadd C dX3_readClause_130 ?_
  refine j_iload_n C 2 dX3_readClause_131 rfl rfl ?_
  refine j_iast C n_49 hm dX3_readClause_132 (fun hm => ?_)
  refine j_aload_n C 0 dX3_readClause_133 rfl rfl ?_
  refine j_nmH hm (fun h3 hm => ?_)
  refine j_gS C f_X3_17 n_47 q_47_2 dX3_readClause_134 ?_
  refine j_aload_n C 0 dX3_readClause_137 rfl rfl ?_
  refine j_gI C f_X3_24 n_47 dX3_readClause_138 ?_
  refine j_iconst C 3 dX3_readClause_141 (by decide) ?_
  refine j_iadd C dX3_readClause_142 ?_
  refine j_aload_n C 0 dX3_readClause_143 rfl rfl ?_
  refine j_gI C f_X3_20 n_47 dX3_readClause_144 ?_
  refine j_iast C n_49 hm dX3_readClause_147 (fun hm => ?_)
  refine j_aload_n C 0 dX3_readClause_148 rfl rfl ?_
  refine j_dup C dX3_readClause_149 rfl ?_
  refine j_nmH hm (fun h4 hm => ?_)
  refine j_gI C f_X3_24 n_47 dX3_readClause_150 ?_
  refine j_iconst C 4 dX3_readClause_153 (by decide) ?_
  refine j_iadd C dX3_readClause_154 ?_
  refine j_pI C f_X3_24 n_47 dX3_readClause_155 ?_
  refine j_iconst C 1 dX3_readClause_158 (by decide) ?_
  obtain rfl := Option.some.inj hm
  exact j_zret C O (by decide) dX3_readClause_159
theorem w_Reader_readClause_72 {G : jG} {X : jX} (C : jC G X cX3_readClause 4 RX3 170 4008) {v1 : Int32} {v2 : Int32} {v3 : Int32} {h : Hp} {out : (Int32 × Hp)} (O : (O_Reader_readClause G X) out) (hm : s_Reader_readClause_72 v1 v2 v3 h = some out) : J G X 72 [(0, .ref (G.1 + 47)), (1, .int v1), (2, .int v2), (3, .int v3)] [] h := by
  unfold s_Reader_readClause_72 at hm
  refine j_aload_n C 0 dX3_readClause_72 rfl rfl ?_
  refine j_gI C f_X3_24 n_47 dX3_readClause_73 ?_
  refine j_aload_n C 0 dX3_readClause_76 rfl rfl ?_
  refine j_gS C f_X3_17 n_47 q_47_2 dX3_readClause_77 ?_
  refine j_alen C 48 n_49 (by decide) dX3_readClause_80 ?_
  refine j_iconst C 4 dX3_readClause_81 (by decide) ?_
  refine j_isub C dX3_readClause_82 ?_
  refine j_if_icmple C 91 dX3_readClause_83 (by decide) hm (fun hm => ?_) (fun hm => ?_)
  · refine j_aload_n C 0 dX3_readClause_91 rfl rfl ?_
    refine j_gS C f_X3_17 n_47 q_47_2 dX3_readClause_92 ?_
    refine j_aload_n C 0 dX3_readClause_95 rfl rfl ?_
    refine j_gI C f_X3_24 n_47 dX3_readClause_96 ?_
    refine j_iload_n C 1 dX3_readClause_99 rfl rfl ?_
    refine j_ifeq C 107 dX3_readClause_100 (by decide) hm (fun hm => ?_) (fun hm => ?_)
    · refine j_iconst C 1 dX3_readClause_107 (by decide) ?_
      refine j_sub (L' := [(0, .ref (G.1 + 47)), (2, .int v2), (3, .int v3)]) [0, 2, 3] rfl ?_
      exact w_Reader_readClause_108 C O hm
    · refine j_iconst C 0 dX3_readClause_103 (by decide) ?_
      refine j_goto C 108 dX3_readClause_104 (by decide) ?_
      refine j_sub (L' := [(0, .ref (G.1 + 47)), (2, .int v2), (3, .int v3)]) [0, 2, 3] rfl ?_
      exact w_Reader_readClause_108 C O hm
  · refine j_aload_n C 0 dX3_readClause_86 rfl rfl ?_
    refine j_cV C l_X3_66 [] [] (fun u1 => some (.int u1.1)) (fun u1 => u1.2) (fun u1 => [.int u1.1]) n_47 hm (fun l u hu => c_Reader_fail hu) rfl (Nat.le_of_ble_eq_true rfl) rfl (Nat.le_of_ble_eq_true rfl) (Nat.le_of_ble_eq_true rfl) (fun _ => rfl) dX3_readClause_87 (fun u1 hm => ?_)
    obtain ⟨cz, hm⟩ := bz_inv hm
    obtain rfl := Option.some.inj hm
    exact j_zret C O cz dX3_readClause_90
theorem w_Reader_readClause_25 {G : jG} {X : jX} (C : jC G X cX3_readClause 4 RX3 170 4008) {v1 : Int32} {h : Hp} {out : (Int32 × Hp)} (O : (O_Reader_readClause G X) out) (hm : s_Reader_readClause_25 v1 h = some out) : J G X 25 [(0, .ref (G.1 + 47)), (1, .int v1)] [] h := by
  unfold s_Reader_readClause_25 at hm
  refine j_aload_n C 0 dX3_readClause_25 rfl rfl ?_
  refine j_cV C l_X3_46 [] [] (fun _ => none) (fun u1 => u1) (fun u1 => []) n_47 hm (fun l u hu => c_Reader_advance hu) rfl (Nat.le_of_ble_eq_true rfl) rfl (Nat.le_of_ble_eq_true rfl) (Nat.le_of_ble_eq_true rfl) (fun _ => rfl) dX3_readClause_26 (fun u1 hm => ?_)
  refine j_aload_n C 0 dX3_readClause_29 rfl rfl ?_
  refine j_gI C f_X3_20 n_47 dX3_readClause_30 ?_
  refine j_istore_n C [(2, .int (hI u1 47 3)), (0, .ref (G.1 + 47)), (1, .int v1)] dX3_readClause_33 rfl (by decide) rfl ?_
  refine j_aload_n C 1 dX3_readClause_34 rfl rfl ?_
  refine j_iconst C 0 dX3_readClause_35 (by decide) ?_
  refine j_cV C l_X3_77 [.int ((0 : Int32))] [] (fun u2 => some (.int u2.1)) (fun u2 => u2.2) (fun u2 => [.int u2.1]) n_47 hm (fun l u hu => c_Reader_readSum hu) rfl (Nat.le_of_ble_eq_true rfl) rfl (Nat.le_of_ble_eq_true rfl) (Nat.le_of_ble_eq_true rfl) (fun _ => rfl) dX3_readClause_36 (fun u2 hm => ?_)
  refine j_ifne C 44 dX3_readClause_39 (by decide) hm (fun hm => ?_) (fun hm => ?_)
  · refine j_iconst C 0 dX3_readClause_42 (by decide) ?_
    obtain rfl := Option.some.inj hm
    exact j_zret C O (by decide) dX3_readClause_43
  · refine j_aload_n C 1 dX3_readClause_44 rfl rfl ?_
    refine j_gI C f_X3_20 n_47 dX3_readClause_45 ?_
    refine j_istore_n C [(3, .int (hI u2.2 47 3)), (2, .int (hI u1 47 3)), (0, .ref (G.1 + 47)), (1, .int v1)] dX3_readClause_48 rfl (by decide) rfl ?_
    refine j_aload_n C 2 dX3_readClause_49 rfl rfl ?_
    refine j_ldcS C (i := 9) rfl dX3_readClause_50 ?_
    refine j_cV C l_X3_71 [.ref (skg G 9)] [] (fun u3 => some (.int u3)) (fun _ => u2.2) (fun u3 => [.int u3]) n_47 hm (fun l u hu => c_Reader_isWord hu) rfl (Nat.le_of_ble_eq_true rfl) rfl (Nat.le_of_ble_eq_true rfl) (Nat.le_of_ble_eq_true rfl) (fun _ => rfl) dX3_readClause_52 (fun u3 hm => ?_)
    refine j_ifeq C 72 dX3_readClause_55 (by decide) hm (fun hm => ?_) (fun hm => ?_)
    · refine j_sub (L' := [(0, .ref (G.1 + 47)), (1, .int v1), (2, .int (hI u1 47 3)), (3, .int (hI u2.2 47 3))]) [2, 3, 1, 0] rfl ?_
      exact w_Reader_readClause_72 C O hm
    · refine j_aload_n C 2 dX3_readClause_58 rfl rfl ?_
      refine j_cV C l_X3_46 [] [] (fun _ => none) (fun u4 => u4) (fun u4 => []) n_47 hm (fun l u hu => c_Reader_advance hu) rfl (Nat.le_of_ble_eq_true rfl) rfl (Nat.le_of_ble_eq_true rfl) (Nat.le_of_ble_eq_true rfl) (fun _ => rfl) dX3_readClause_59 (fun u4 hm => ?_)
      refine j_aload_n C 2 dX3_readClause_62 rfl rfl ?_
      refine j_iconst C 0 dX3_readClause_63 (by decide) ?_
      refine j_cV C l_X3_83 [.int ((0 : Int32))] [] (fun u5 => some (.int u5.1)) (fun u5 => u5.2) (fun u5 => [.int u5.1]) n_47 hm (fun l u hu => c_Reader_readTest hu) rfl (Nat.le_of_ble_eq_true rfl) rfl (Nat.le_of_ble_eq_true rfl) (Nat.le_of_ble_eq_true rfl) (fun _ => rfl) dX3_readClause_64 (fun u5 hm => ?_)
      refine j_ifne C 72 dX3_readClause_67 (by decide) hm (fun hm => ?_) (fun hm => ?_)
      · refine j_iconst C 0 dX3_readClause_70 (by decide) ?_
        obtain rfl := Option.some.inj hm
        exact j_zret C O (by decide) dX3_readClause_71
      · refine j_sub (L' := [(0, .ref (G.1 + 47)), (1, .int v1), (2, .int (hI u1 47 3)), (3, .int (hI u2.2 47 3))]) [2, 3, 1, 0] rfl ?_
        exact w_Reader_readClause_72 C O hm
theorem w_Reader_readClause {G : jG} {X : jX} (C : jC G X cX3_readClause 4 RX3 170 4008) {h : Hp} {out : (Int32 × Hp)} (O : (O_Reader_readClause G X) out) (hm : s_Reader_readClause h = some out) : J G X 0 [(0, .ref (G.1 + 47))] [] h := by
  unfold s_Reader_readClause at hm
  refine j_aload_n C 0 dX3_readClause_0 rfl rfl ?_
  refine j_ldcS C (i := 0) rfl dX3_readClause_1 ?_
  refine j_cV C l_X3_71 [.ref (skg G 0)] [] (fun u1 => some (.int u1)) (fun _ => h) (fun u1 => [.int u1]) n_47 hm (fun l u hu => c_Reader_isWord hu) rfl (Nat.le_of_ble_eq_true rfl) rfl (Nat.le_of_ble_eq_true rfl) (Nat.le_of_ble_eq_true rfl) (fun _ => rfl) dX3_readClause_3 (fun u1 hm => ?_)
  refine j_istore_n C [(1, .int u1), (0, .ref (G.1 + 47))] dX3_readClause_6 rfl (by decide) rfl ?_
  refine j_iload_n C 0 dX3_readClause_7 rfl rfl ?_
  refine j_ifne C 25 dX3_readClause_8 (by decide) hm (fun hm => ?_) (fun hm => ?_)
  · refine j_aload_n C 1 dX3_readClause_11 rfl rfl ?_
    refine j_ldcS C (i := 1) rfl dX3_readClause_12 ?_
    refine j_cV C l_X3_71 [.ref (skg G 1)] [] (fun u2 => some (.int u2)) (fun _ => h) (fun u2 => [.int u2]) n_47 hm (fun l u hu => c_Reader_isWord hu) rfl (Nat.le_of_ble_eq_true rfl) rfl (Nat.le_of_ble_eq_true rfl) (Nat.le_of_ble_eq_true rfl) (fun _ => rfl) dX3_readClause_14 (fun u2 hm => ?_)
    refine j_ifne C 25 dX3_readClause_17 (by decide) hm (fun hm => ?_) (fun hm => ?_)
    · refine j_aload_n C 1 dX3_readClause_20 rfl rfl ?_
      refine j_cV C l_X3_66 [] [] (fun u3 => some (.int u3.1)) (fun u3 => u3.2) (fun u3 => [.int u3.1]) n_47 hm (fun l u hu => c_Reader_fail hu) rfl (Nat.le_of_ble_eq_true rfl) rfl (Nat.le_of_ble_eq_true rfl) (Nat.le_of_ble_eq_true rfl) (fun _ => rfl) dX3_readClause_21 (fun u3 hm => ?_)
      obtain ⟨cz, hm⟩ := bz_inv hm
      obtain rfl := Option.some.inj hm
      exact j_zret C O cz dX3_readClause_24
    · refine j_sub (L' := [(0, .ref (G.1 + 47)), (1, .int u1)]) [1, 0] rfl ?_
      exact w_Reader_readClause_25 C O hm
  · refine j_sub (L' := [(0, .ref (G.1 + 47)), (1, .int u1)]) [1, 0] rfl ?_
    exact w_Reader_readClause_25 C O hm
theorem c_Reader_readClause {G : jG} {l : Launch} {h : Hp} {out : (Int32 × Hp)} (hm : s_Reader_readClause h = some out) : mt G l yX3_readClause cX3_readClause 4 (some .boolean) 170 4008 [.ref (G.1 + 47)] h (some (.int out.1)) out.2 :=
  mt_of (by decide) (Nat.le_of_ble_eq_true rfl) _ rfl (fun X I C O => w_Reader_readClause C O hm)
noncomputable def s_Reader_readLaw_31 (v1 : Int32) (h : Hp) : Option ((Int32 × Hp) ⊕ ((Option Nat) × Hp)) :=
  if ((12 : Int32)) ≤ v1 then
    (s_Reader_fail h).bind fun u1 => some (.inr (none, u1.2))
  else
    (s_Reader_readClause h).bind fun u2 => if u2.1 = 0 then
      some (.inr (none, u2.2))
    else
      if (hI u2.2 47 6) = 0 then
        lt (al u2.2 101 2) fun h6 => (s_Arr_copyOf 48 (hI h6 47 3) h6).bind fun u7 => (s_Arr_copyOf 49 (hI u7.2 47 4) u7.2).bind fun u8 => (s_Law_init (nid u2.2) u7.1 u8.1 u8.2).bind fun u9 => some (.inr (some (nid u2.2), u9))
      else
        (s_Reader_isOther ((59 : Int32)) u2.2).bind fun u3 => if u3 = 0 then
          (s_Reader_fail u2.2).bind fun u5 => some (.inr (none, u5.2))
        else
          (s_Reader_advance u2.2).bind fun u4 => some (.inl ((v1 + (1 : Int32)), u4))
noncomputable def s_Reader_readLaw (h : Hp) : Option ((Option Nat) × Hp) :=
  (s_Reader_advance (sI (sI (sI (sI (sI h 47 3 ((0 : Int32))) 47 4 ((0 : Int32))) 47 5 ((0 : Int32))) 47 8 ((0 : Int32))) 47 9 ((-1 : Int32)))).bind fun u1 => lp (fun q => s_Reader_readLaw_31 q.1 q.2) (((0 : Int32)), u1)
def O_Reader_readLaw (G : jG) (X : jX) (out : ((Option Nat) × Hp)) : Prop := jO G X (some (.object "SlackRace$Law")) (some (rv G out.1)) out.2
def P_Reader_readLaw_31 (G : jG) (X : jX) (q : Int32 × Hp) : Prop := J G X 31 [(0, .ref (G.1 + 47)), (1, .int q.1)] [] q.2
def O_Reader_readLaw_31 (G : jG) (X : jX) (t : ((Int32 × Hp) ⊕ ((Option Nat) × Hp))) : Prop := Sum.elim (P_Reader_readLaw_31 G X) (O_Reader_readLaw G X) t
theorem w_Reader_readLaw_31 {G : jG} {X : jX} (C : jC G X cX3_readLaw 2 RX3 171 4031) {v1 : Int32} {h : Hp} {out : ((Int32 × Hp) ⊕ ((Option Nat) × Hp))} (O : (O_Reader_readLaw_31 G X) out) (hm : s_Reader_readLaw_31 v1 h = some out) : J G X 31 [(0, .ref (G.1 + 47)), (1, .int v1)] [] h := by
  unfold s_Reader_readLaw_31 at hm
  refine j_iload_n C 1 dX3_readLaw_31 rfl rfl ?_
  refine j_bipush C 12 dX3_readLaw_32 (by decide) ?_
  refine j_if_icmpge C 109 dX3_readLaw_34 (by decide) hm (fun hm => ?_) (fun hm => ?_)
  · refine j_aload_n C 0 dX3_readLaw_109 rfl rfl ?_
    refine j_cV C l_X3_66 [] [] (fun u1 => some (.int u1.1)) (fun u1 => u1.2) (fun u1 => [.int u1.1]) n_47 hm (fun l u hu => c_Reader_fail hu) rfl (Nat.le_of_ble_eq_true rfl) rfl (Nat.le_of_ble_eq_true rfl) (Nat.le_of_ble_eq_true rfl) (fun _ => rfl) dX3_readLaw_110 (fun u1 hm => ?_)
    refine j_pop C dX3_readLaw_113 rfl ?_
    refine j_null C dX3_readLaw_114 ?_
    obtain rfl := Option.some.inj hm
    exact j_aret C O (Or.inl ⟨_, rfl⟩) (Or.inl rfl) dX3_readLaw_115
  · refine j_aload_n C 0 dX3_readLaw_37 rfl rfl ?_
    refine j_cV C l_X3_49 [] [] (fun u2 => some (.int u2.1)) (fun u2 => u2.2) (fun u2 => [.int u2.1]) n_47 hm (fun l u hu => c_Reader_readClause hu) rfl (Nat.le_of_ble_eq_true rfl) rfl (Nat.le_of_ble_eq_true rfl) (Nat.le_of_ble_eq_true rfl) (fun _ => rfl) dX3_readLaw_38 (fun u2 hm => ?_)
    refine j_ifne C 46 dX3_readLaw_41 (by decide) hm (fun hm => ?_) (fun hm => ?_)
    · refine j_null C dX3_readLaw_44 ?_
      obtain rfl := Option.some.inj hm
      exact j_aret C O (Or.inl ⟨_, rfl⟩) (Or.inl rfl) dX3_readLaw_45
    · refine j_aload_n C 0 dX3_readLaw_46 rfl rfl ?_
      refine j_gI C f_X3_30 n_47 dX3_readLaw_47 ?_
      refine j_ifne C 83 dX3_readLaw_50 (by decide) hm (fun hm => ?_) (fun hm => ?_)
      · refine j_new C o_X3_15 dX3_readLaw_53 ?_
        refine j_dup C dX3_readLaw_56 rfl ?_
        refine j_aload_n C 0 dX3_readLaw_57 rfl rfl ?_
        refine j_nmH hm (fun h6 hm => ?_)
        refine j_gS C f_X3_9 n_47 q_47_1 dX3_readLaw_58 ?_
        refine j_aload_n C 0 dX3_readLaw_61 rfl rfl ?_
        refine j_gI C f_X3_20 n_47 dX3_readLaw_62 ?_
        refine j_cS C l_X3_53 [.ref (G.1 + 48), .int (hI h6 47 3)] [.ref (G.1 + (nid u2.2)), .ref (G.1 + (nid u2.2))] (fun u7 => some (.ref (G.1 + u7.1))) (fun u7 => u7.2) (fun u7 => [.ref (G.1 + u7.1), .ref (G.1 + (nid u2.2)), .ref (G.1 + (nid u2.2))]) hm (fun l u hu => c_Arr_copyOf hu) rfl (Nat.le_of_ble_eq_true rfl) rfl (Nat.le_of_ble_eq_true rfl) (Nat.le_of_ble_eq_true rfl) (fun _ => rfl) dX3_readLaw_65 (fun u7 hm => ?_)
        refine j_aload_n C 0 dX3_readLaw_68 rfl rfl ?_
        refine j_gS C f_X3_17 n_47 q_47_2 dX3_readLaw_69 ?_
        refine j_aload_n C 0 dX3_readLaw_72 rfl rfl ?_
        refine j_gI C f_X3_24 n_47 dX3_readLaw_73 ?_
        refine j_cS C l_X3_53 [.ref (G.1 + 49), .int (hI u7.2 47 4)] [.ref (G.1 + u7.1), .ref (G.1 + (nid u2.2)), .ref (G.1 + (nid u2.2))] (fun u8 => some (.ref (G.1 + u8.1))) (fun u8 => u8.2) (fun u8 => [.ref (G.1 + u8.1), .ref (G.1 + u7.1), .ref (G.1 + (nid u2.2)), .ref (G.1 + (nid u2.2))]) hm (fun l u hu => c_Arr_copyOf hu) rfl (Nat.le_of_ble_eq_true rfl) rfl (Nat.le_of_ble_eq_true rfl) (Nat.le_of_ble_eq_true rfl) (fun _ => rfl) dX3_readLaw_76 (fun u8 hm => ?_)
        refine j_cI C l_X3_59 [.ref (G.1 + u7.1), .ref (G.1 + u8.1)] [.ref (G.1 + (nid u2.2))] (fun u9 => u9) hm (fun l u hu => c_Law_init hu) rfl (Nat.le_of_ble_eq_true rfl) rfl (Nat.le_of_ble_eq_true rfl) (Nat.le_of_ble_eq_true rfl) dX3_readLaw_79 (fun u9 hm => ?_)
        obtain rfl := Option.some.inj hm
        exact j_aret C O (Or.inl ⟨_, rfl⟩) (Or.inr ⟨_, rfl⟩) dX3_readLaw_82
      · refine j_aload_n C 0 dX3_readLaw_83 rfl rfl ?_
        refine j_bipush C 59 dX3_readLaw_84 (by decide) ?_
        refine j_cV C l_X3_62 [.int ((59 : Int32))] [] (fun u3 => some (.int u3)) (fun _ => u2.2) (fun u3 => [.int u3]) n_47 hm (fun l u hu => c_Reader_isOther hu) rfl (Nat.le_of_ble_eq_true rfl) rfl (Nat.le_of_ble_eq_true rfl) (Nat.le_of_ble_eq_true rfl) (fun _ => rfl) dX3_readLaw_86 (fun u3 hm => ?_)
        refine j_ifne C 99 dX3_readLaw_89 (by decide) hm (fun hm => ?_) (fun hm => ?_)
        · refine j_aload_n C 0 dX3_readLaw_92 rfl rfl ?_
          refine j_cV C l_X3_66 [] [] (fun u5 => some (.int u5.1)) (fun u5 => u5.2) (fun u5 => [.int u5.1]) n_47 hm (fun l u hu => c_Reader_fail hu) rfl (Nat.le_of_ble_eq_true rfl) rfl (Nat.le_of_ble_eq_true rfl) (Nat.le_of_ble_eq_true rfl) (fun _ => rfl) dX3_readLaw_93 (fun u5 hm => ?_)
          refine j_pop C dX3_readLaw_96 rfl ?_
          refine j_null C dX3_readLaw_97 ?_
          obtain rfl := Option.some.inj hm
          exact j_aret C O (Or.inl ⟨_, rfl⟩) (Or.inl rfl) dX3_readLaw_98
        · refine j_aload_n C 0 dX3_readLaw_99 rfl rfl ?_
          refine j_cV C l_X3_46 [] [] (fun _ => none) (fun u4 => u4) (fun u4 => []) n_47 hm (fun l u hu => c_Reader_advance hu) rfl (Nat.le_of_ble_eq_true rfl) rfl (Nat.le_of_ble_eq_true rfl) (Nat.le_of_ble_eq_true rfl) (fun _ => rfl) dX3_readLaw_100 (fun u4 hm => ?_)
          refine j_iinc C 1 [(1, .int (v1 + (1 : Int32))), (0, .ref (G.1 + 47))] dX3_readLaw_103 rfl (add_lit (by decide)) (by decide) rfl ?_
          refine j_goto C 31 dX3_readLaw_106 (by decide) ?_
          obtain rfl := Option.some.inj hm
          refine j_sub (L' := [(0, .ref (G.1 + 47)), (1, .int (v1 + (1 : Int32)))]) [1, 0] rfl ?_
          exact O
theorem k_Reader_readLaw_31 {G : jG} {X : jX} (C : jC G X cX3_readLaw 2 RX3 171 4031) {v1 : Int32} {h : Hp} {out : ((Option Nat) × Hp)} (O : (O_Reader_readLaw G X) out) (hm : lp (fun q => s_Reader_readLaw_31 q.1 q.2) (v1, h) = some out) : J G X 31 [(0, .ref (G.1 + 47)), (1, .int v1)] [] h :=
  lp_ok (P := P_Reader_readLaw_31 G X) (O := (O_Reader_readLaw G X)) (fun q r hm O => w_Reader_readLaw_31 C O hm) hm O
theorem w_Reader_readLaw {G : jG} {X : jX} (C : jC G X cX3_readLaw 2 RX3 171 4031) {h : Hp} {out : ((Option Nat) × Hp)} (O : (O_Reader_readLaw G X) out) (hm : s_Reader_readLaw h = some out) : J G X 0 [(0, .ref (G.1 + 47))] [] h := by
  unfold s_Reader_readLaw at hm
  refine j_aload_n C 0 dX3_readLaw_0 rfl rfl ?_
  refine j_iconst C 0 dX3_readLaw_1 (by decide) ?_
  refine j_pI C f_X3_20 n_47 dX3_readLaw_2 ?_
  refine j_aload_n C 0 dX3_readLaw_5 rfl rfl ?_
  refine j_iconst C 0 dX3_readLaw_6 (by decide) ?_
  refine j_pI C f_X3_24 n_47 dX3_readLaw_7 ?_
  refine j_aload_n C 0 dX3_readLaw_10 rfl rfl ?_
  refine j_iconst C 0 dX3_readLaw_11 (by decide) ?_
  refine j_pI C f_X3_27 n_47 dX3_readLaw_12 ?_
  refine j_aload_n C 0 dX3_readLaw_15 rfl rfl ?_
  refine j_iconst C 0 dX3_readLaw_16 (by decide) ?_
  refine j_pI C f_X3_36 n_47 dX3_readLaw_17 ?_
  refine j_aload_n C 0 dX3_readLaw_20 rfl rfl ?_
  refine j_iconst C (-1 : Int32) dX3_readLaw_21 (by decide) ?_
  refine j_pI C f_X3_39 n_47 dX3_readLaw_22 ?_
  refine j_aload_n C 0 dX3_readLaw_25 rfl rfl ?_
  refine j_cV C l_X3_46 [] [] (fun _ => none) (fun u1 => u1) (fun u1 => []) n_47 hm (fun l u hu => c_Reader_advance hu) rfl (Nat.le_of_ble_eq_true rfl) rfl (Nat.le_of_ble_eq_true rfl) (Nat.le_of_ble_eq_true rfl) (fun _ => rfl) dX3_readLaw_26 (fun u1 hm => ?_)
  refine j_iconst C 0 dX3_readLaw_29 (by decide) ?_
  refine j_istore_n C [(1, .int ((0 : Int32))), (0, .ref (G.1 + 47))] dX3_readLaw_30 rfl (by decide) rfl ?_
  refine j_sub (L' := [(0, .ref (G.1 + 47)), (1, .int ((0 : Int32)))]) [1, 0] rfl ?_
  exact k_Reader_readLaw_31 C O hm
theorem c_Reader_readLaw {G : jG} {l : Launch} {h : Hp} {out : ((Option Nat) × Hp)} (hm : s_Reader_readLaw h = some out) : mt G l yX3_readLaw cX3_readLaw 2 (some (.object "SlackRace$Law")) 171 4031 [.ref (G.1 + 47)] h (some (rv G out.1)) out.2 :=
  mt_of (by decide) (Nat.le_of_ble_eq_true rfl) _ rfl (fun X I C O => w_Reader_readLaw C O hm)
noncomputable def s_Race_law (h : Hp) : Option (Int32 × Hp) :=
  if (hI h 1 13) < ((6 : Int32)) then
    (s_Reader_readLaw h).bind fun u1 => lt (sI u1.2 0 14 (hI u1.2 47 9)) fun h2 => nq u1.1 ((s_Race_refuse ((-6 : Int32)) (sI h2 45 1 ((0 : Int32)))).bind fun u5 => some (u5.1, u5.2)) fun r3 => lt (sI h2 45 1 ((0 : Int32))) fun h6 => ib (hI h6 1 13) 6 <| oq h6 (some r3) 101 <| lt (sR h6 6 (ix (hI h6 1 13)) (some r3)) fun h7 => lt (sI h7 1 13 ((hI h7 1 13) + ((1 : Int32)))) fun h8 => (s_Race_grant ((hI h8 1 13) - ((1 : Int32))) h8).bind fun u9 => some (u9.1, u9.2)
  else
    (s_Race_refuse ((-5 : Int32)) (sI h 45 1 ((0 : Int32)))).bind fun u10 => some (u10.1, u10.2)
def O_Race_law (G : jG) (X : jX) (out : (Int32 × Hp)) : Prop := jO G X (some .int) (some (.int out.1)) out.2
theorem w_Race_law {G : jG} {X : jX} (C : jC G X cX11_law 2 RX11 172 4052) {h : Hp} {out : (Int32 × Hp)} (O : (O_Race_law G X) out) (hm : s_Race_law h = some out) : J G X 0 [(0, .ref (G.1 + 0))] [] h := by
  unfold s_Race_law at hm
  refine j_aload_n C 0 dX11_law_0 rfl rfl ?_
  refine j_gS C f_X11_10 n_0 q_0_0 dX11_law_1 ?_
  refine j_gI C f_X11_167 n_1 dX11_law_4 ?_
  refine j_bipush C 6 dX11_law_7 (by decide) ?_
  refine j_if_icmplt C 27 dX11_law_9 (by decide) hm (fun hm => ?_) (fun hm => ?_)
  · refine j_aload_n C 0 dX11_law_27 rfl rfl ?_
    refine j_gS C f_X11_36 n_0 q_0_4 dX11_law_28 ?_
    refine j_cV C l_X11_170 [] [] (fun u1 => some (rv G u1.1)) (fun u1 => u1.2) (fun u1 => [rv G u1.1]) n_47 hm (fun l u hu => c_Reader_readLaw hu) rfl (Nat.le_of_ble_eq_true rfl) rfl (Nat.le_of_ble_eq_true rfl) (Nat.le_of_ble_eq_true rfl) (fun _ => rfl) dX11_law_31 (fun u1 hm => ?_)
    refine j_astoreQ_n C [(1, rv G u1.1), (0, .ref (G.1 + 0))] dX11_law_34 rfl (by decide) rfl ?_
    refine j_aload_n C 1 dX11_law_35 rfl rfl ?_
    refine j_aload_n C 1 dX11_law_36 rfl rfl ?_
    refine j_gS C f_X11_36 n_0 q_0_4 dX11_law_37 ?_
    refine j_gI C f_X11_174 n_47 dX11_law_40 ?_
    refine j_pI C f_X11_99 n_0 dX11_law_43 ?_
    refine j_aload_n C 1 dX11_law_46 rfl rfl ?_
    refine j_nmH hm (fun h2 hm => ?_)
    refine j_gS C f_X11_27 n_0 q_0_3 dX11_law_47 ?_
    refine j_iconst C 0 dX11_law_50 (by decide) ?_
    refine j_pI C f_X11_154 n_45 dX11_law_51 ?_
    refine j_aloadQ_n C 0 dX11_law_54 rfl rfl ?_
    rcases nq_inv hm with ⟨c4, hm⟩ | ⟨r3, c4, hm⟩
    · rw [c4]
      refine j_ifnonnullN C dX11_law_55 ?_
      refine j_aload_n C 1 dX11_law_58 rfl rfl ?_
      refine j_bipush C (-6 : Int32) dX11_law_59 (by decide) ?_
      refine j_cV C l_X11_112 [.int ((-6 : Int32))] [] (fun u5 => some (.int u5.1)) (fun u5 => u5.2) (fun u5 => [.int u5.1]) n_0 hm (fun l u hu => c_Race_refuse hu) rfl (Nat.le_of_ble_eq_true rfl) rfl (Nat.le_of_ble_eq_true rfl) (Nat.le_of_ble_eq_true rfl) (fun _ => rfl) dX11_law_61 (fun u5 hm => ?_)
      obtain rfl := Option.some.inj hm
      exact j_iret C O dX11_law_64
    · rw [c4]
      refine j_ifnonnull C 65 dX11_law_55 (by decide) ?_
      refine j_aload_n C 1 dX11_law_65 rfl rfl ?_
      refine j_nmH hm (fun h6 hm => ?_)
      refine j_gS C f_X11_10 n_0 q_0_0 dX11_law_66 ?_
      refine j_gS C f_X11_177 n_1 q_1_4 dX11_law_69 ?_
      refine j_aload_n C 1 dX11_law_72 rfl rfl ?_
      refine j_gS C f_X11_10 n_0 q_0_0 dX11_law_73 ?_
      refine j_gI C f_X11_167 n_1 dX11_law_76 ?_
      refine j_aload_n C 0 dX11_law_79 rfl rfl ?_
      refine j_aast C (o := (some r3)) n_6 rfl hm dX11_law_80 (fun hm => ?_)
      refine j_aload_n C 1 dX11_law_81 rfl rfl ?_
      refine j_nmH hm (fun h7 hm => ?_)
      refine j_gS C f_X11_10 n_0 q_0_0 dX11_law_82 ?_
      refine j_dup C dX11_law_85 rfl ?_
      refine j_gI C f_X11_167 n_1 dX11_law_86 ?_
      refine j_iconst C 1 dX11_law_89 (by decide) ?_
      refine j_iadd C dX11_law_90 ?_
      refine j_pI C f_X11_167 n_1 dX11_law_91 ?_
      refine j_aload_n C 1 dX11_law_94 rfl rfl ?_
      refine j_aload_n C 1 dX11_law_95 rfl rfl ?_
      refine j_nmH hm (fun h8 hm => ?_)
      refine j_gS C f_X11_10 n_0 q_0_0 dX11_law_96 ?_
      refine j_gI C f_X11_167 n_1 dX11_law_99 ?_
      refine j_iconst C 1 dX11_law_102 (by decide) ?_
      refine j_isub C dX11_law_103 ?_
      refine j_cV C l_X11_122 [.int ((hI h8 1 13) - ((1 : Int32)))] [] (fun u9 => some (.int u9.1)) (fun u9 => u9.2) (fun u9 => [.int u9.1]) n_0 hm (fun l u hu => c_Race_grant hu) rfl (Nat.le_of_ble_eq_true rfl) rfl (Nat.le_of_ble_eq_true rfl) (Nat.le_of_ble_eq_true rfl) (fun _ => rfl) dX11_law_104 (fun u9 hm => ?_)
      obtain rfl := Option.some.inj hm
      exact j_iret C O dX11_law_107
  · refine j_aload_n C 0 dX11_law_12 rfl rfl ?_
    refine j_gS C f_X11_27 n_0 q_0_3 dX11_law_13 ?_
    refine j_iconst C 0 dX11_law_16 (by decide) ?_
    refine j_pI C f_X11_154 n_45 dX11_law_17 ?_
    refine j_aload_n C 0 dX11_law_20 rfl rfl ?_
    refine j_bipush C (-5 : Int32) dX11_law_21 (by decide) ?_
    refine j_cV C l_X11_112 [.int ((-5 : Int32))] [] (fun u10 => some (.int u10.1)) (fun u10 => u10.2) (fun u10 => [.int u10.1]) n_0 hm (fun l u hu => c_Race_refuse hu) rfl (Nat.le_of_ble_eq_true rfl) rfl (Nat.le_of_ble_eq_true rfl) (Nat.le_of_ble_eq_true rfl) (fun _ => rfl) dX11_law_23 (fun u10 hm => ?_)
    obtain rfl := Option.some.inj hm
    exact j_iret C O dX11_law_26
theorem c_Race_law {G : jG} {l : Launch} {h : Hp} {out : (Int32 × Hp)} (hm : s_Race_law h = some out) : mt G l yX11_law cX11_law 2 (some .int) 172 4052 [.ref (G.1 + 0)] h (some (.int out.1)) out.2 :=
  mt_of (by decide) (Nat.le_of_ble_eq_true rfl) _ rfl (fun X I C O => w_Race_law C O hm)
noncomputable def s_Race_level_16 (h : Hp) : Option (Int32 × Hp) :=
  some ((-100000 : Int32), h)
noncomputable def s_Race_level (v1 : Int32) (v2 : Int32) (h : Hp) : Option (Int32 × Hp) :=
  (s_Race_isWithin v1 ((0 : Int32)) ((1 : Int32)) h).bind fun u1 => if u1 = 0 then
    s_Race_level_16 h
  else
    (s_Race_isMinute v2 h).bind fun u2 => if u2 = 0 then
      s_Race_level_16 h
    else
      (s_Water_freshenTides h).bind fun u3 => (s_Water_levelToday v1 v2 u3).bind fun u4 => some (u4, u3)
def O_Race_level (G : jG) (X : jX) (out : (Int32 × Hp)) : Prop := jO G X (some .int) (some (.int out.1)) out.2
theorem w_Race_level_16 {G : jG} {X : jX} (C : jC G X cX11_level 3 RX11 4 142) {h : Hp} {out : (Int32 × Hp)} (O : (O_Race_level G X) out) (hm : s_Race_level_16 h = some out) : J G X 16 [] [] h := by
  unfold s_Race_level_16 at hm
  refine j_ldc C wd_874 dX11_level_16 ?_
  obtain rfl := Option.some.inj hm
  exact j_iret C O dX11_level_18
theorem w_Race_level {G : jG} {X : jX} (C : jC G X cX11_level 3 RX11 4 142) {v1 : Int32} {v2 : Int32} {h : Hp} {out : (Int32 × Hp)} (O : (O_Race_level G X) out) (hm : s_Race_level v1 v2 h = some out) : J G X 0 [(0, .ref (G.1 + 0)), (1, .int v1), (2, .int v2)] [] h := by
  unfold s_Race_level at hm
  refine j_iload_n C 1 dX11_level_0 rfl rfl ?_
  refine j_iconst C 0 dX11_level_1 (by decide) ?_
  refine j_iconst C 1 dX11_level_2 (by decide) ?_
  refine j_cS C l_X11_102 [.int v1, .int ((0 : Int32)), .int ((1 : Int32))] [] (fun u1 => some (.int u1)) (fun _ => h) (fun u1 => [.int u1]) hm (fun l u hu => c_Race_isWithin hu) rfl (Nat.le_of_ble_eq_true rfl) rfl (Nat.le_of_ble_eq_true rfl) (Nat.le_of_ble_eq_true rfl) (fun _ => rfl) dX11_level_3 (fun u1 hm => ?_)
  refine j_ifeq C 16 dX11_level_6 (by decide) hm (fun hm => ?_) (fun hm => ?_)
  · refine j_sub (L' := []) [] rfl ?_
    exact w_Race_level_16 C O hm
  · refine j_iload_n C 2 dX11_level_9 rfl rfl ?_
    refine j_cS C l_X11_184 [.int v2] [] (fun u2 => some (.int u2)) (fun _ => h) (fun u2 => [.int u2]) hm (fun l u hu => c_Race_isMinute hu) rfl (Nat.le_of_ble_eq_true rfl) rfl (Nat.le_of_ble_eq_true rfl) (Nat.le_of_ble_eq_true rfl) (fun _ => rfl) dX11_level_10 (fun u2 hm => ?_)
    refine j_ifne C 19 dX11_level_13 (by decide) hm (fun hm => ?_) (fun hm => ?_)
    · refine j_sub (L' := []) [] rfl ?_
      exact w_Race_level_16 C O hm
    · refine j_aload_n C 0 dX11_level_19 rfl rfl ?_
      refine j_gS C f_X11_45 n_0 q_0_5 dX11_level_20 ?_
      refine j_cV C l_X11_188 [] [] (fun _ => none) (fun u3 => u3) (fun u3 => []) n_50 hm (fun l u hu => c_Water_freshenTides hu) rfl (Nat.le_of_ble_eq_true rfl) rfl (Nat.le_of_ble_eq_true rfl) (Nat.le_of_ble_eq_true rfl) (fun _ => rfl) dX11_level_23 (fun u3 hm => ?_)
      refine j_aload_n C 0 dX11_level_26 rfl rfl ?_
      refine j_gS C f_X11_45 n_0 q_0_5 dX11_level_27 ?_
      refine j_iload_n C 1 dX11_level_30 rfl rfl ?_
      refine j_iload_n C 2 dX11_level_31 rfl rfl ?_
      refine j_cV C l_X11_191 [.int v1, .int v2] [] (fun u4 => some (.int u4)) (fun _ => u3) (fun u4 => [.int u4]) n_50 hm (fun l u hu => c_Water_levelToday hu) rfl (Nat.le_of_ble_eq_true rfl) rfl (Nat.le_of_ble_eq_true rfl) (Nat.le_of_ble_eq_true rfl) (fun _ => rfl) dX11_level_32 (fun u4 hm => ?_)
      obtain rfl := Option.some.inj hm
      exact j_iret C O dX11_level_35
theorem c_Race_level {G : jG} {l : Launch} {v1 : Int32} {v2 : Int32} {h : Hp} {out : (Int32 × Hp)} (hm : s_Race_level v1 v2 h = some out) : mt G l yX11_level cX11_level 3 (some .int) 4 142 [.ref (G.1 + 0), .int v1, .int v2] h (some (.int out.1)) out.2 :=
  mt_of (by decide) (Nat.le_of_ble_eq_true rfl) _ rfl (fun X I C O => w_Race_level C O hm)
noncomputable def s_Race_lost_56 (h : Hp) : Option (Int32 × Hp) :=
  some ((-1 : Int32), h)
noncomputable def s_Race_lost (v1 : Int32) (v2 : Int32) (v3 : Int32) (v4 : Int32) (h : Hp) : Option (Int32 × Hp) :=
  (s_Race_isCell v1 h).bind fun u1 => if u1 = 0 then
    s_Race_lost_56 h
  else
    (s_Race_isStep v2 h).bind fun u2 => if u2 = 0 then
      s_Race_lost_56 h
    else
      (s_Race_isWithin v3 ((0 : Int32)) ((6 : Int32)) h).bind fun u3 => if u3 = 0 then
        s_Race_lost_56 h
      else
        (s_Race_isStep (v2 + v3) h).bind fun u4 => if u4 = 0 then
          s_Race_lost_56 h
        else
          (s_Race_isWithin v4 ((0 : Int32)) ((51 : Int32)) h).bind fun u5 => if u5 = 0 then
            s_Race_lost_56 h
          else
            ib v1 50 <| if (hI h 5 (ix v1)) = 0 then
              s_Race_lost_56 h
            else
              (s_Water_freshenToday h).bind fun u6 => (s_Drift_chance v1 v2 v3 v4 u6).bind fun u7 => some (u7.1, u7.2)
def O_Race_lost (G : jG) (X : jX) (out : (Int32 × Hp)) : Prop := jO G X (some .int) (some (.int out.1)) out.2
theorem w_Race_lost_56 {G : jG} {X : jX} (C : jC G X cX11_lost 5 RX11 7 230) {h : Hp} {out : (Int32 × Hp)} (O : (O_Race_lost G X) out) (hm : s_Race_lost_56 h = some out) : J G X 56 [] [] h := by
  unfold s_Race_lost_56 at hm
  refine j_iconst C (-1 : Int32) dX11_lost_56 (by decide) ?_
  obtain rfl := Option.some.inj hm
  exact j_iret C O dX11_lost_57
theorem w_Race_lost {G : jG} {X : jX} (C : jC G X cX11_lost 5 RX11 7 230) {v1 : Int32} {v2 : Int32} {v3 : Int32} {v4 : Int32} {h : Hp} {out : (Int32 × Hp)} (O : (O_Race_lost G X) out) (hm : s_Race_lost v1 v2 v3 v4 h = some out) : J G X 0 [(0, .ref (G.1 + 0)), (1, .int v1), (2, .int v2), (3, .int v3), (4, .int v4)] [] h := by
  unfold s_Race_lost at hm
  refine j_iload_n C 1 dX11_lost_0 rfl rfl ?_
  refine j_cS C l_X11_200 [.int v1] [] (fun u1 => some (.int u1)) (fun _ => h) (fun u1 => [.int u1]) hm (fun l u hu => c_Race_isCell hu) rfl (Nat.le_of_ble_eq_true rfl) rfl (Nat.le_of_ble_eq_true rfl) (Nat.le_of_ble_eq_true rfl) (fun _ => rfl) dX11_lost_1 (fun u1 hm => ?_)
  refine j_ifeq C 56 dX11_lost_4 (by decide) hm (fun hm => ?_) (fun hm => ?_)
  · refine j_sub (L' := []) [] rfl ?_
    exact w_Race_lost_56 C O hm
  · refine j_iload_n C 2 dX11_lost_7 rfl rfl ?_
    refine j_cS C l_X11_241 [.int v2] [] (fun u2 => some (.int u2)) (fun _ => h) (fun u2 => [.int u2]) hm (fun l u hu => c_Race_isStep hu) rfl (Nat.le_of_ble_eq_true rfl) rfl (Nat.le_of_ble_eq_true rfl) (Nat.le_of_ble_eq_true rfl) (fun _ => rfl) dX11_lost_8 (fun u2 hm => ?_)
    refine j_ifeq C 56 dX11_lost_11 (by decide) hm (fun hm => ?_) (fun hm => ?_)
    · refine j_sub (L' := []) [] rfl ?_
      exact w_Race_lost_56 C O hm
    · refine j_iload_n C 3 dX11_lost_14 rfl rfl ?_
      refine j_iconst C 0 dX11_lost_15 (by decide) ?_
      refine j_bipush C 6 dX11_lost_16 (by decide) ?_
      refine j_cS C l_X11_102 [.int v3, .int ((0 : Int32)), .int ((6 : Int32))] [] (fun u3 => some (.int u3)) (fun _ => h) (fun u3 => [.int u3]) hm (fun l u hu => c_Race_isWithin hu) rfl (Nat.le_of_ble_eq_true rfl) rfl (Nat.le_of_ble_eq_true rfl) (Nat.le_of_ble_eq_true rfl) (fun _ => rfl) dX11_lost_18 (fun u3 hm => ?_)
      refine j_ifeq C 56 dX11_lost_21 (by decide) hm (fun hm => ?_) (fun hm => ?_)
      · refine j_sub (L' := []) [] rfl ?_
        exact w_Race_lost_56 C O hm
      · refine j_iload_n C 2 dX11_lost_24 rfl rfl ?_
        refine j_iload_n C 3 dX11_lost_25 rfl rfl ?_
        refine j_iadd C dX11_lost_26 ?_
        refine j_cS C l_X11_241 [.int (v2 + v3)] [] (fun u4 => some (.int u4)) (fun _ => h) (fun u4 => [.int u4]) hm (fun l u hu => c_Race_isStep hu) rfl (Nat.le_of_ble_eq_true rfl) rfl (Nat.le_of_ble_eq_true rfl) (Nat.le_of_ble_eq_true rfl) (fun _ => rfl) dX11_lost_27 (fun u4 hm => ?_)
        refine j_ifeq C 56 dX11_lost_30 (by decide) hm (fun hm => ?_) (fun hm => ?_)
        · refine j_sub (L' := []) [] rfl ?_
          exact w_Race_lost_56 C O hm
        · refine j_iload C 4 dX11_lost_33 rfl ?_
          refine j_iconst C 0 dX11_lost_35 (by decide) ?_
          refine j_bipush C 51 dX11_lost_36 (by decide) ?_
          refine j_cS C l_X11_102 [.int v4, .int ((0 : Int32)), .int ((51 : Int32))] [] (fun u5 => some (.int u5)) (fun _ => h) (fun u5 => [.int u5]) hm (fun l u hu => c_Race_isWithin hu) rfl (Nat.le_of_ble_eq_true rfl) rfl (Nat.le_of_ble_eq_true rfl) (Nat.le_of_ble_eq_true rfl) (fun _ => rfl) dX11_lost_38 (fun u5 hm => ?_)
          refine j_ifeq C 56 dX11_lost_41 (by decide) hm (fun hm => ?_) (fun hm => ?_)
          · refine j_sub (L' := []) [] rfl ?_
            exact w_Race_lost_56 C O hm
          · refine j_aload_n C 0 dX11_lost_44 rfl rfl ?_
            refine j_gS C f_X11_10 n_0 q_0_0 dX11_lost_45 ?_
            refine j_gS C f_X11_164 n_1 q_1_3 dX11_lost_48 ?_
            refine j_iload_n C 1 dX11_lost_51 rfl rfl ?_
            refine j_iald C n_5 hm dX11_lost_52 (fun hm => ?_)
            refine j_ifne C 58 dX11_lost_53 (by decide) hm (fun hm => ?_) (fun hm => ?_)
            · refine j_sub (L' := []) [] rfl ?_
              exact w_Race_lost_56 C O hm
            · refine j_aload_n C 0 dX11_lost_58 rfl rfl ?_
              refine j_gS C f_X11_45 n_0 q_0_5 dX11_lost_59 ?_
              refine j_cV C l_X11_194 [] [] (fun _ => none) (fun u6 => u6) (fun u6 => []) n_50 hm (fun l u hu => c_Water_freshenToday hu) rfl (Nat.le_of_ble_eq_true rfl) rfl (Nat.le_of_ble_eq_true rfl) (Nat.le_of_ble_eq_true rfl) (fun _ => rfl) dX11_lost_62 (fun u6 hm => ?_)
              refine j_aload_n C 0 dX11_lost_65 rfl rfl ?_
              refine j_gS C f_X11_84 n_0 q_0_10 dX11_lost_66 ?_
              refine j_iload_n C 1 dX11_lost_69 rfl rfl ?_
              refine j_iload_n C 2 dX11_lost_70 rfl rfl ?_
              refine j_iload_n C 3 dX11_lost_71 rfl rfl ?_
              refine j_iload C 4 dX11_lost_72 rfl ?_
              refine j_cV C l_X11_359 [.int v1, .int v2, .int v3, .int v4] [] (fun u7 => some (.int u7.1)) (fun u7 => u7.2) (fun u7 => [.int u7.1]) n_80 hm (fun l u hu => c_Drift_chance hu) rfl (Nat.le_of_ble_eq_true rfl) rfl (Nat.le_of_ble_eq_true rfl) (Nat.le_of_ble_eq_true rfl) (fun _ => rfl) dX11_lost_74 (fun u7 hm => ?_)
              obtain rfl := Option.some.inj hm
              exact j_iret C O dX11_lost_77
theorem c_Race_lost {G : jG} {l : Launch} {v1 : Int32} {v2 : Int32} {v3 : Int32} {v4 : Int32} {h : Hp} {out : (Int32 × Hp)} (hm : s_Race_lost v1 v2 v3 v4 h = some out) : mt G l yX11_lost cX11_lost 5 (some .int) 7 230 [.ref (G.1 + 0), .int v1, .int v2, .int v3, .int v4] h (some (.int out.1)) out.2 :=
  mt_of (by decide) (Nat.le_of_ble_eq_true rfl) _ rfl (fun X I C O => w_Race_lost C O hm)
noncomputable def s_Ways_widestSlip_49 (v4 : Int32) (h : Hp) : Option (Int32 × Hp) :=
  some (v4 - ((1 : Int32)), h)
noncomputable def s_Ways_widestSlip_3 (v1 : Int32) (v2 : Int32) (v3 : Int32) (v4 : Int32) (h : Hp) : Option ((Int32 × Int32 × Int32 × Int32 × Hp) ⊕ (Int32 × Hp)) :=
  if ((60 : Int32)) < v4 then
    some (.inr ((60 : Int32), h))
  else
    (s_Ways_movesDone v1 v2 v3 v4 h).bind fun u1 => if u1.1 < (hI u1.2 1 16) then
      inr (s_Ways_widestSlip_49 v4 u1.2)
    else
      (s_Ways_movesDone v1 v2 v3 (-v4) u1.2).bind fun u2 => if (hI u2.2 1 16) ≤ u2.1 then
        some (.inl (v1, v2, v3, (v4 + (1 : Int32)), u2.2))
      else
        inr (s_Ways_widestSlip_49 v4 u2.2)
noncomputable def s_Ways_widestSlip (v1 : Int32) (v2 : Int32) (v3 : Int32) (h : Hp) : Option (Int32 × Hp) :=
  lp (fun q => s_Ways_widestSlip_3 q.1 q.2.1 q.2.2.1 q.2.2.2.1 q.2.2.2.2) (v1, v2, v3, ((0 : Int32)), h)
def O_Ways_widestSlip (G : jG) (X : jX) (out : (Int32 × Hp)) : Prop := jO G X (some .int) (some (.int out.1)) out.2
def P_Ways_widestSlip_3 (G : jG) (X : jX) (q : Int32 × Int32 × Int32 × Int32 × Hp) : Prop := J G X 3 [(0, .ref (G.1 + 58)), (1, .int q.1), (2, .int q.2.1), (3, .int q.2.2.1), (4, .int q.2.2.2.1)] [] q.2.2.2.2
def O_Ways_widestSlip_3 (G : jG) (X : jX) (t : ((Int32 × Int32 × Int32 × Int32 × Hp) ⊕ (Int32 × Hp))) : Prop := Sum.elim (P_Ways_widestSlip_3 G X) (O_Ways_widestSlip G X) t
theorem w_Ways_widestSlip_49 {G : jG} {X : jX} (C : jC G X cX10_widestSlip 5 RX10 7 236) {v4 : Int32} {h : Hp} {out : (Int32 × Hp)} (O : (O_Ways_widestSlip G X) out) (hm : s_Ways_widestSlip_49 v4 h = some out) : J G X 49 [(4, .int v4)] [] h := by
  unfold s_Ways_widestSlip_49 at hm
  refine j_iload C 0 dX10_widestSlip_49 rfl ?_
  refine j_iconst C 1 dX10_widestSlip_51 (by decide) ?_
  refine j_isub C dX10_widestSlip_52 ?_
  obtain rfl := Option.some.inj hm
  exact j_iret C O dX10_widestSlip_53
theorem w_Ways_widestSlip_3 {G : jG} {X : jX} (C : jC G X cX10_widestSlip 5 RX10 7 236) {v1 : Int32} {v2 : Int32} {v3 : Int32} {v4 : Int32} {h : Hp} {out : ((Int32 × Int32 × Int32 × Int32 × Hp) ⊕ (Int32 × Hp))} (O : (O_Ways_widestSlip_3 G X) out) (hm : s_Ways_widestSlip_3 v1 v2 v3 v4 h = some out) : J G X 3 [(0, .ref (G.1 + 58)), (1, .int v1), (2, .int v2), (3, .int v3), (4, .int v4)] [] h := by
  unfold s_Ways_widestSlip_3 at hm
  refine j_iload C 4 dX10_widestSlip_3 rfl ?_
  refine j_bipush C 60 dX10_widestSlip_5 (by decide) ?_
  refine j_if_icmpgt C 60 dX10_widestSlip_7 (by decide) hm (fun hm => ?_) (fun hm => ?_)
  · refine j_bipush C 60 dX10_widestSlip_60 (by decide) ?_
    obtain rfl := Option.some.inj hm
    exact j_iret C O dX10_widestSlip_62
  · refine j_aload_n C 0 dX10_widestSlip_10 rfl rfl ?_
    refine j_iload_n C 1 dX10_widestSlip_11 rfl rfl ?_
    refine j_iload_n C 2 dX10_widestSlip_12 rfl rfl ?_
    refine j_iload_n C 3 dX10_widestSlip_13 rfl rfl ?_
    refine j_iload C 4 dX10_widestSlip_14 rfl ?_
    refine j_cV C l_X10_159 [.int v1, .int v2, .int v3, .int v4] [] (fun u1 => some (.int u1.1)) (fun u1 => u1.2) (fun u1 => [.int u1.1]) n_58 hm (fun l u hu => c_Ways_movesDone hu) rfl (Nat.le_of_ble_eq_true rfl) rfl (Nat.le_of_ble_eq_true rfl) (Nat.le_of_ble_eq_true rfl) (fun _ => rfl) dX10_widestSlip_16 (fun u1 hm => ?_)
    refine j_aload_n C 0 dX10_widestSlip_19 rfl rfl ?_
    refine j_gS C f_X10_47 n_58 q_58_0 dX10_widestSlip_20 ?_
    refine j_gI C f_X10_149 n_1 dX10_widestSlip_23 ?_
    refine j_if_icmplt C 49 dX10_widestSlip_26 (by decide) hm (fun hm => ?_) (fun hm => ?_)
    · obtain ⟨o_0, hm_0, rfl⟩ := inr_inv hm
      refine j_sub (L' := [(4, .int v4)]) [4] rfl ?_
      exact w_Ways_widestSlip_49 C O hm_0
    · refine j_aload_n C 0 dX10_widestSlip_29 rfl rfl ?_
      refine j_iload_n C 1 dX10_widestSlip_30 rfl rfl ?_
      refine j_iload_n C 2 dX10_widestSlip_31 rfl rfl ?_
      refine j_iload_n C 3 dX10_widestSlip_32 rfl rfl ?_
      refine j_iload C 4 dX10_widestSlip_33 rfl ?_
      refine j_ineg C dX10_widestSlip_35 ?_
      refine j_cV C l_X10_159 [.int v1, .int v2, .int v3, .int (-v4)] [] (fun u2 => some (.int u2.1)) (fun u2 => u2.2) (fun u2 => [.int u2.1]) n_58 hm (fun l u hu => c_Ways_movesDone hu) rfl (Nat.le_of_ble_eq_true rfl) rfl (Nat.le_of_ble_eq_true rfl) (Nat.le_of_ble_eq_true rfl) (fun _ => rfl) dX10_widestSlip_36 (fun u2 hm => ?_)
      refine j_aload_n C 0 dX10_widestSlip_39 rfl rfl ?_
      refine j_gS C f_X10_47 n_58 q_58_0 dX10_widestSlip_40 ?_
      refine j_gI C f_X10_149 n_1 dX10_widestSlip_43 ?_
      refine j_if_icmpge C 54 dX10_widestSlip_46 (by decide) hm (fun hm => ?_) (fun hm => ?_)
      · refine j_iinc C 4 [(4, .int (v4 + (1 : Int32))), (0, .ref (G.1 + 58)), (1, .int v1), (2, .int v2), (3, .int v3)] dX10_widestSlip_54 rfl (add_lit (by decide)) (by decide) rfl ?_
        refine j_goto C 3 dX10_widestSlip_57 (by decide) ?_
        obtain rfl := Option.some.inj hm
        refine j_sub (L' := [(0, .ref (G.1 + 58)), (1, .int v1), (2, .int v2), (3, .int v3), (4, .int (v4 + (1 : Int32)))]) [1, 2, 3, 4, 0] rfl ?_
        exact O
      · obtain ⟨o_0, hm_0, rfl⟩ := inr_inv hm
        refine j_sub (L' := [(4, .int v4)]) [4] rfl ?_
        exact w_Ways_widestSlip_49 C O hm_0
theorem k_Ways_widestSlip_3 {G : jG} {X : jX} (C : jC G X cX10_widestSlip 5 RX10 7 236) {v1 : Int32} {v2 : Int32} {v3 : Int32} {v4 : Int32} {h : Hp} {out : (Int32 × Hp)} (O : (O_Ways_widestSlip G X) out) (hm : lp (fun q => s_Ways_widestSlip_3 q.1 q.2.1 q.2.2.1 q.2.2.2.1 q.2.2.2.2) (v1, v2, v3, v4, h) = some out) : J G X 3 [(0, .ref (G.1 + 58)), (1, .int v1), (2, .int v2), (3, .int v3), (4, .int v4)] [] h :=
  lp_ok (P := P_Ways_widestSlip_3 G X) (O := (O_Ways_widestSlip G X)) (fun q r hm O => w_Ways_widestSlip_3 C O hm) hm O
theorem w_Ways_widestSlip {G : jG} {X : jX} (C : jC G X cX10_widestSlip 5 RX10 7 236) {v1 : Int32} {v2 : Int32} {v3 : Int32} {h : Hp} {out : (Int32 × Hp)} (O : (O_Ways_widestSlip G X) out) (hm : s_Ways_widestSlip v1 v2 v3 h = some out) : J G X 0 [(0, .ref (G.1 + 58)), (1, .int v1), (2, .int v2), (3, .int v3)] [] h := by
  unfold s_Ways_widestSlip at hm
  refine j_iconst C 0 dX10_widestSlip_0 (by decide) ?_
  refine j_istore C [(4, .int ((0 : Int32))), (0, .ref (G.1 + 58)), (1, .int v1), (2, .int v2), (3, .int v3)] dX10_widestSlip_1 (by decide) rfl ?_
  refine j_sub (L' := [(0, .ref (G.1 + 58)), (1, .int v1), (2, .int v2), (3, .int v3), (4, .int ((0 : Int32)))]) [1, 2, 3, 4, 0] rfl ?_
  exact k_Ways_widestSlip_3 C O hm
theorem c_Ways_widestSlip {G : jG} {l : Launch} {v1 : Int32} {v2 : Int32} {v3 : Int32} {h : Hp} {out : (Int32 × Hp)} (hm : s_Ways_widestSlip v1 v2 v3 h = some out) : mt G l yX10_widestSlip cX10_widestSlip 5 (some .int) 7 236 [.ref (G.1 + 58), .int v1, .int v2, .int v3] h (some (.int out.1)) out.2 :=
  mt_of (by decide) (Nat.le_of_ble_eq_true rfl) _ rfl (fun X I C O => w_Ways_widestSlip C O hm)
noncomputable def s_Race_margin_22 (h : Hp) : Option (Int32 × Hp) :=
  some ((-1 : Int32), h)
noncomputable def s_Race_margin (v1 : Int32) (v2 : Int32) (v3 : Int32) (h : Hp) : Option (Int32 × Hp) :=
  (s_Race_isBoat v1 h).bind fun u1 => if u1 = 0 then
    s_Race_margin_22 h
  else
    (s_Race_isStep v2 h).bind fun u2 => if u2 = 0 then
      s_Race_margin_22 h
    else
      (s_Race_isCell v3 h).bind fun u3 => if u3 = 0 then
        s_Race_margin_22 h
      else
        (s_Water_freshenToday h).bind fun u4 => (s_Ways_widestSlip v1 v2 v3 u4).bind fun u5 => some (u5.1, u5.2)
def O_Race_margin (G : jG) (X : jX) (out : (Int32 × Hp)) : Prop := jO G X (some .int) (some (.int out.1)) out.2
theorem w_Race_margin_22 {G : jG} {X : jX} (C : jC G X cX11_margin 4 RX11 8 260) {h : Hp} {out : (Int32 × Hp)} (O : (O_Race_margin G X) out) (hm : s_Race_margin_22 h = some out) : J G X 22 [] [] h := by
  unfold s_Race_margin_22 at hm
  refine j_iconst C (-1 : Int32) dX11_margin_22 (by decide) ?_
  obtain rfl := Option.some.inj hm
  exact j_iret C O dX11_margin_23
theorem w_Race_margin {G : jG} {X : jX} (C : jC G X cX11_margin 4 RX11 8 260) {v1 : Int32} {v2 : Int32} {v3 : Int32} {h : Hp} {out : (Int32 × Hp)} (O : (O_Race_margin G X) out) (hm : s_Race_margin v1 v2 v3 h = some out) : J G X 0 [(0, .ref (G.1 + 0)), (1, .int v1), (2, .int v2), (3, .int v3)] [] h := by
  unfold s_Race_margin at hm
  refine j_aload_n C 0 dX11_margin_0 rfl rfl ?_
  refine j_iload_n C 1 dX11_margin_1 rfl rfl ?_
  refine j_cV C l_X11_238 [.int v1] [] (fun u1 => some (.int u1)) (fun _ => h) (fun u1 => [.int u1]) n_0 hm (fun l u hu => c_Race_isBoat hu) rfl (Nat.le_of_ble_eq_true rfl) rfl (Nat.le_of_ble_eq_true rfl) (Nat.le_of_ble_eq_true rfl) (fun _ => rfl) dX11_margin_2 (fun u1 hm => ?_)
  refine j_ifeq C 22 dX11_margin_5 (by decide) hm (fun hm => ?_) (fun hm => ?_)
  · refine j_sub (L' := []) [] rfl ?_
    exact w_Race_margin_22 C O hm
  · refine j_iload_n C 2 dX11_margin_8 rfl rfl ?_
    refine j_cS C l_X11_241 [.int v2] [] (fun u2 => some (.int u2)) (fun _ => h) (fun u2 => [.int u2]) hm (fun l u hu => c_Race_isStep hu) rfl (Nat.le_of_ble_eq_true rfl) rfl (Nat.le_of_ble_eq_true rfl) (Nat.le_of_ble_eq_true rfl) (fun _ => rfl) dX11_margin_9 (fun u2 hm => ?_)
    refine j_ifeq C 22 dX11_margin_12 (by decide) hm (fun hm => ?_) (fun hm => ?_)
    · refine j_sub (L' := []) [] rfl ?_
      exact w_Race_margin_22 C O hm
    · refine j_iload_n C 3 dX11_margin_15 rfl rfl ?_
      refine j_cS C l_X11_200 [.int v3] [] (fun u3 => some (.int u3)) (fun _ => h) (fun u3 => [.int u3]) hm (fun l u hu => c_Race_isCell hu) rfl (Nat.le_of_ble_eq_true rfl) rfl (Nat.le_of_ble_eq_true rfl) (Nat.le_of_ble_eq_true rfl) (fun _ => rfl) dX11_margin_16 (fun u3 hm => ?_)
      refine j_ifne C 24 dX11_margin_19 (by decide) hm (fun hm => ?_) (fun hm => ?_)
      · refine j_sub (L' := []) [] rfl ?_
        exact w_Race_margin_22 C O hm
      · refine j_aload_n C 0 dX11_margin_24 rfl rfl ?_
        refine j_gS C f_X11_45 n_0 q_0_5 dX11_margin_25 ?_
        refine j_cV C l_X11_194 [] [] (fun _ => none) (fun u4 => u4) (fun u4 => []) n_50 hm (fun l u hu => c_Water_freshenToday hu) rfl (Nat.le_of_ble_eq_true rfl) rfl (Nat.le_of_ble_eq_true rfl) (Nat.le_of_ble_eq_true rfl) (fun _ => rfl) dX11_margin_28 (fun u4 hm => ?_)
        refine j_aload_n C 0 dX11_margin_31 rfl rfl ?_
        refine j_gS C f_X11_54 n_0 q_0_6 dX11_margin_32 ?_
        refine j_iload_n C 1 dX11_margin_35 rfl rfl ?_
        refine j_iload_n C 2 dX11_margin_36 rfl rfl ?_
        refine j_iload_n C 3 dX11_margin_37 rfl rfl ?_
        refine j_cV C l_X11_270 [.int v1, .int v2, .int v3] [] (fun u5 => some (.int u5.1)) (fun u5 => u5.2) (fun u5 => [.int u5.1]) n_58 hm (fun l u hu => c_Ways_widestSlip hu) rfl (Nat.le_of_ble_eq_true rfl) rfl (Nat.le_of_ble_eq_true rfl) (Nat.le_of_ble_eq_true rfl) (fun _ => rfl) dX11_margin_38 (fun u5 hm => ?_)
        obtain rfl := Option.some.inj hm
        exact j_iret C O dX11_margin_41
theorem c_Race_margin {G : jG} {l : Launch} {v1 : Int32} {v2 : Int32} {v3 : Int32} {h : Hp} {out : (Int32 × Hp)} (hm : s_Race_margin v1 v2 v3 h = some out) : mt G l yX11_margin cX11_margin 4 (some .int) 8 260 [.ref (G.1 + 0), .int v1, .int v2, .int v3] h (some (.int out.1)) out.2 :=
  mt_of (by decide) (Nat.le_of_ble_eq_true rfl) _ rfl (fun X I C O => w_Race_margin C O hm)
noncomputable def s_Rule_rightBy_32 (s0 : Int32) (h : Hp) : Option Int32 :=
  some (s0)
noncomputable def s_Rule_rightBy (v1 : Int32) (v2 : Int32) (h : Hp) : Option Int32 :=
  if v1 ≤ v2 then
    ib (v2 + ((1 : Int32))) 1441 <| ib v1 1441 <| s_Rule_rightBy_32 (((hI h 78 2) + (hI h 79 (ix (v2 + ((1 : Int32)))))) - (hI h 79 (ix v1))) h
  else
    s_Rule_rightBy_32 (hI h 78 2) h
def O_Rule_rightBy (G : jG) (X : jX) (h : Hp) (out : Int32) : Prop := jO G X (some .int) (some (.int out)) h
theorem w_Rule_rightBy_32 {G : jG} {X : jX} (C : jC G X cX4_rightBy 3 RX4 1 70) {s0 : Int32} {h : Hp} {out : Int32} (O : (O_Rule_rightBy G X h) out) (hm : s_Rule_rightBy_32 s0 h = some out) : J G X 32 [] [.int s0] h := by
  unfold s_Rule_rightBy_32 at hm
  obtain rfl := Option.some.inj hm
  exact j_iret C O dX4_rightBy_32
theorem w_Rule_rightBy {G : jG} {X : jX} (C : jC G X cX4_rightBy 3 RX4 1 70) {v1 : Int32} {v2 : Int32} {h : Hp} {out : Int32} (O : (O_Rule_rightBy G X h) out) (hm : s_Rule_rightBy v1 v2 h = some out) : J G X 0 [(0, .ref (G.1 + 78)), (1, .int v1), (2, .int v2)] [] h := by
  unfold s_Rule_rightBy at hm
  refine j_iload_n C 1 dX4_rightBy_0 rfl rfl ?_
  refine j_iload_n C 2 dX4_rightBy_1 rfl rfl ?_
  refine j_if_icmple C 12 dX4_rightBy_2 (by decide) hm (fun hm => ?_) (fun hm => ?_)
  · refine j_aload_n C 0 dX4_rightBy_12 rfl rfl ?_
    refine j_gI C f_X4_15 n_78 dX4_rightBy_13 ?_
    refine j_aload_n C 0 dX4_rightBy_16 rfl rfl ?_
    refine j_gS C f_X4_9 n_78 q_78_1 dX4_rightBy_17 ?_
    refine j_iload_n C 2 dX4_rightBy_20 rfl rfl ?_
    refine j_iconst C 1 dX4_rightBy_21 (by decide) ?_
    refine j_iadd C dX4_rightBy_22 ?_
    refine j_iald C n_79 hm dX4_rightBy_23 (fun hm => ?_)
    refine j_iadd C dX4_rightBy_24 ?_
    refine j_aload_n C 0 dX4_rightBy_25 rfl rfl ?_
    refine j_gS C f_X4_9 n_78 q_78_1 dX4_rightBy_26 ?_
    refine j_iload_n C 1 dX4_rightBy_29 rfl rfl ?_
    refine j_iald C n_79 hm dX4_rightBy_30 (fun hm => ?_)
    refine j_isub C dX4_rightBy_31 ?_
    refine j_sub (L' := []) [] rfl ?_
    exact w_Rule_rightBy_32 C O hm
  · refine j_aload_n C 0 dX4_rightBy_5 rfl rfl ?_
    refine j_gI C f_X4_15 n_78 dX4_rightBy_6 ?_
    refine j_goto C 32 dX4_rightBy_9 (by decide) ?_
    refine j_sub (L' := []) [] rfl ?_
    exact w_Rule_rightBy_32 C O hm
theorem c_Rule_rightBy {G : jG} {l : Launch} {v1 : Int32} {v2 : Int32} {h : Hp} {out : Int32} (hm : s_Rule_rightBy v1 v2 h = some out) : mt G l yX4_rightBy cX4_rightBy 3 (some .int) 1 70 [.ref (G.1 + 78), .int v1, .int v2] h (some (.int out)) h :=
  mt_of (by decide) (Nat.le_of_ble_eq_true rfl) _ rfl (fun X I C O => w_Rule_rightBy C O hm)
noncomputable def s_Rule_bestFor_41 (v1 : Int32) (v2 : Int32) (v3 : Int32) (h : Hp) : Option ((Int32 × Int32 × Int32) ⊕ Int32) :=
  some (.inl (v1, v2, (v3 + (1 : Int32))))
noncomputable def s_Rule_bestFor_13 (v1 : Int32) (v2 : Int32) (v3 : Int32) (h : Hp) : Option ((Int32 × Int32 × Int32) ⊕ Int32) :=
  if ((720 : Int32)) ≤ v3 then
    some (.inr (v2))
  else
    (s_Rule_rightBy v3 (v3 + v1) h).bind fun u1 => (s_Rule_rightBy v2 (v2 + v1) h).bind fun u2 => if u1 ≤ u2 then
      s_Rule_bestFor_41 v1 v2 v3 h
    else
      s_Rule_bestFor_41 v1 v3 v3 h
noncomputable def s_Rule_bestFor (v1 : Int32) (h : Hp) : Option Int32 :=
  if (hI h 78 3) = 0 then
    some ((-1 : Int32))
  else
    lp (fun q => s_Rule_bestFor_13 q.1 q.2.1 q.2.2 h) (v1, ((0 : Int32)), ((1 : Int32)))
def O_Rule_bestFor (G : jG) (X : jX) (h : Hp) (out : Int32) : Prop := jO G X (some .int) (some (.int out)) h
def P_Rule_bestFor_13 (G : jG) (X : jX) (h : Hp) (q : Int32 × Int32 × Int32) : Prop := J G X 13 [(0, .ref (G.1 + 78)), (1, .int q.1), (2, .int q.2.1), (3, .int q.2.2)] [] h
def O_Rule_bestFor_13 (G : jG) (X : jX) (h : Hp) (t : ((Int32 × Int32 × Int32) ⊕ Int32)) : Prop := Sum.elim (P_Rule_bestFor_13 G X h) (O_Rule_bestFor G X h) t
theorem w_Rule_bestFor_41 {G : jG} {X : jX} (C : jC G X cX4_bestFor 4 RX4 2 92) {v1 : Int32} {v2 : Int32} {v3 : Int32} {h : Hp} {out : ((Int32 × Int32 × Int32) ⊕ Int32)} (O : (O_Rule_bestFor_13 G X h) out) (hm : s_Rule_bestFor_41 v1 v2 v3 h = some out) : J G X 41 [(0, .ref (G.1 + 78)), (1, .int v1), (2, .int v2), (3, .int v3)] [] h := by
  unfold s_Rule_bestFor_41 at hm
  refine j_iinc C 3 [(3, .int (v3 + (1 : Int32))), (0, .ref (G.1 + 78)), (1, .int v1), (2, .int v2)] dX4_bestFor_41 rfl (add_lit (by decide)) (by decide) rfl ?_
  refine j_goto C 13 dX4_bestFor_44 (by decide) ?_
  obtain rfl := Option.some.inj hm
  refine j_sub (L' := [(0, .ref (G.1 + 78)), (1, .int v1), (2, .int v2), (3, .int (v3 + (1 : Int32)))]) [1, 2, 3, 0] rfl ?_
  exact O
theorem w_Rule_bestFor_13 {G : jG} {X : jX} (C : jC G X cX4_bestFor 4 RX4 2 92) {v1 : Int32} {v2 : Int32} {v3 : Int32} {h : Hp} {out : ((Int32 × Int32 × Int32) ⊕ Int32)} (O : (O_Rule_bestFor_13 G X h) out) (hm : s_Rule_bestFor_13 v1 v2 v3 h = some out) : J G X 13 [(0, .ref (G.1 + 78)), (1, .int v1), (2, .int v2), (3, .int v3)] [] h := by
  unfold s_Rule_bestFor_13 at hm
  refine j_iload_n C 3 dX4_bestFor_13 rfl rfl ?_
  refine j_sipush C 720 dX4_bestFor_14 (by decide) ?_
  refine j_if_icmpge C 47 dX4_bestFor_17 (by decide) hm (fun hm => ?_) (fun hm => ?_)
  · refine j_iload_n C 2 dX4_bestFor_47 rfl rfl ?_
    obtain rfl := Option.some.inj hm
    exact j_iret C O dX4_bestFor_48
  · refine j_aload_n C 0 dX4_bestFor_20 rfl rfl ?_
    refine j_iload_n C 3 dX4_bestFor_21 rfl rfl ?_
    refine j_iload_n C 3 dX4_bestFor_22 rfl rfl ?_
    refine j_iload_n C 1 dX4_bestFor_23 rfl rfl ?_
    refine j_iadd C dX4_bestFor_24 ?_
    refine j_cV C l_X4_49 [.int v3, .int (v3 + v1)] [] (fun u1 => some (.int u1)) (fun _ => h) (fun u1 => [.int u1]) n_78 hm (fun l u hu => c_Rule_rightBy hu) rfl (Nat.le_of_ble_eq_true rfl) rfl (Nat.le_of_ble_eq_true rfl) (Nat.le_of_ble_eq_true rfl) (fun _ => rfl) dX4_bestFor_25 (fun u1 hm => ?_)
    refine j_aload_n C 0 dX4_bestFor_28 rfl rfl ?_
    refine j_iload_n C 2 dX4_bestFor_29 rfl rfl ?_
    refine j_iload_n C 2 dX4_bestFor_30 rfl rfl ?_
    refine j_iload_n C 1 dX4_bestFor_31 rfl rfl ?_
    refine j_iadd C dX4_bestFor_32 ?_
    refine j_cV C l_X4_49 [.int v2, .int (v2 + v1)] [.int u1] (fun u2 => some (.int u2)) (fun _ => h) (fun u2 => [.int u2, .int u1]) n_78 hm (fun l u hu => c_Rule_rightBy hu) rfl (Nat.le_of_ble_eq_true rfl) rfl (Nat.le_of_ble_eq_true rfl) (Nat.le_of_ble_eq_true rfl) (fun _ => rfl) dX4_bestFor_33 (fun u2 hm => ?_)
    refine j_if_icmple C 41 dX4_bestFor_36 (by decide) hm (fun hm => ?_) (fun hm => ?_)
    · refine j_sub (L' := [(0, .ref (G.1 + 78)), (1, .int v1), (2, .int v2), (3, .int v3)]) [0, 1, 2, 3] rfl ?_
      exact w_Rule_bestFor_41 C O hm
    · refine j_iload_n C 3 dX4_bestFor_39 rfl rfl ?_
      refine j_istore_n C [(2, .int v3), (0, .ref (G.1 + 78)), (1, .int v1), (3, .int v3)] dX4_bestFor_40 rfl (by decide) rfl ?_
      refine j_sub (L' := [(0, .ref (G.1 + 78)), (1, .int v1), (2, .int v3), (3, .int v3)]) [1, 2, 0, 3] rfl ?_
      exact w_Rule_bestFor_41 C O hm
theorem k_Rule_bestFor_13 {G : jG} {X : jX} (C : jC G X cX4_bestFor 4 RX4 2 92) {v1 : Int32} {v2 : Int32} {v3 : Int32} {h : Hp} {out : Int32} (O : (O_Rule_bestFor G X h) out) (hm : lp (fun q => s_Rule_bestFor_13 q.1 q.2.1 q.2.2 h) (v1, v2, v3) = some out) : J G X 13 [(0, .ref (G.1 + 78)), (1, .int v1), (2, .int v2), (3, .int v3)] [] h :=
  lp_ok (P := P_Rule_bestFor_13 G X h) (O := (O_Rule_bestFor G X h)) (fun q r hm O => w_Rule_bestFor_13 C O hm) hm O
theorem w_Rule_bestFor {G : jG} {X : jX} (C : jC G X cX4_bestFor 4 RX4 2 92) {v1 : Int32} {h : Hp} {out : Int32} (O : (O_Rule_bestFor G X h) out) (hm : s_Rule_bestFor v1 h = some out) : J G X 0 [(0, .ref (G.1 + 78)), (1, .int v1)] [] h := by
  unfold s_Rule_bestFor at hm
  refine j_aload_n C 0 dX4_bestFor_0 rfl rfl ?_
  refine j_gZ C f_X4_19 n_78 dX4_bestFor_1 ?_
  refine j_ifne C 9 dX4_bestFor_4 (by decide) hm (fun hm => ?_) (fun hm => ?_)
  · refine j_iconst C (-1 : Int32) dX4_bestFor_7 (by decide) ?_
    obtain rfl := Option.some.inj hm
    exact j_iret C O dX4_bestFor_8
  · refine j_iconst C 0 dX4_bestFor_9 (by decide) ?_
    refine j_istore_n C [(2, .int ((0 : Int32))), (0, .ref (G.1 + 78)), (1, .int v1)] dX4_bestFor_10 rfl (by decide) rfl ?_
    refine j_iconst C 1 dX4_bestFor_11 (by decide) ?_
    refine j_istore_n C [(3, .int ((1 : Int32))), (2, .int ((0 : Int32))), (0, .ref (G.1 + 78)), (1, .int v1)] dX4_bestFor_12 rfl (by decide) rfl ?_
    refine j_sub (L' := [(0, .ref (G.1 + 78)), (1, .int v1), (2, .int ((0 : Int32))), (3, .int ((1 : Int32)))]) [2, 3, 1, 0] rfl ?_
    exact k_Rule_bestFor_13 C O hm
theorem c_Rule_bestFor {G : jG} {l : Launch} {v1 : Int32} {h : Hp} {out : Int32} (hm : s_Rule_bestFor v1 h = some out) : mt G l yX4_bestFor cX4_bestFor 4 (some .int) 2 92 [.ref (G.1 + 78), .int v1] h (some (.int out)) h :=
  mt_of (by decide) (Nat.le_of_ble_eq_true rfl) _ rfl (fun X I C O => w_Rule_bestFor C O hm)
noncomputable def s_Rule_isHigh_16 (h : Hp) : Option Int32 :=
  some ((0 : Int32))
noncomputable def s_Rule_isHigh_66 (h : Hp) : Option Int32 :=
  some ((0 : Int32))
noncomputable def s_Rule_isHigh_30 (v1 : Int32) (v2 : Int32) (v3 : Int32) (h : Hp) : Option ((Int32 × Int32 × Int32) ⊕ Int32) :=
  if ((60 : Int32)) < v3 then
    some (.inr ((1 : Int32)))
  else
    (s_Water_levelToday ((0 : Int32)) (v1 - v3) h).bind fun u1 => if v2 ≤ u1 then
      inr (s_Rule_isHigh_66 h)
    else
      (s_Water_levelToday ((0 : Int32)) (v1 + v3) h).bind fun u2 => if u2 ≤ v2 then
        some (.inl (v1, v2, (v3 + (1 : Int32))))
      else
        inr (s_Rule_isHigh_66 h)
noncomputable def s_Rule_isHigh (v1 : Int32) (h : Hp) : Option Int32 :=
  if v1 < ((60 : Int32)) then
    s_Rule_isHigh_16 h
  else
    if (v1 + ((60 : Int32))) < ((1440 : Int32)) then
      (s_Water_levelToday ((0 : Int32)) v1 h).bind fun u1 => lp (fun q => s_Rule_isHigh_30 q.1 q.2.1 q.2.2 h) (v1, u1, ((1 : Int32)))
    else
      s_Rule_isHigh_16 h
def O_Rule_isHigh (G : jG) (X : jX) (h : Hp) (out : Int32) : Prop := jO G X (some .boolean) (some (.int out)) h
def P_Rule_isHigh_30 (G : jG) (X : jX) (h : Hp) (q : Int32 × Int32 × Int32) : Prop := J G X 30 [(0, .ref (G.1 + 78)), (1, .int q.1), (2, .int q.2.1), (3, .int q.2.2)] [] h
def O_Rule_isHigh_30 (G : jG) (X : jX) (h : Hp) (t : ((Int32 × Int32 × Int32) ⊕ Int32)) : Prop := Sum.elim (P_Rule_isHigh_30 G X h) (O_Rule_isHigh G X h) t
theorem w_Rule_isHigh_16 {G : jG} {X : jX} (C : jC G X cX4_isHigh 4 RX4 3 116) {h : Hp} {out : Int32} (O : (O_Rule_isHigh G X h) out) (hm : s_Rule_isHigh_16 h = some out) : J G X 16 [] [] h := by
  unfold s_Rule_isHigh_16 at hm
  refine j_iconst C 0 dX4_isHigh_16 (by decide) ?_
  obtain rfl := Option.some.inj hm
  exact j_zret C O (by decide) dX4_isHigh_17
theorem w_Rule_isHigh_66 {G : jG} {X : jX} (C : jC G X cX4_isHigh 4 RX4 3 116) {h : Hp} {out : Int32} (O : (O_Rule_isHigh G X h) out) (hm : s_Rule_isHigh_66 h = some out) : J G X 66 [] [] h := by
  unfold s_Rule_isHigh_66 at hm
  refine j_iconst C 0 dX4_isHigh_66 (by decide) ?_
  obtain rfl := Option.some.inj hm
  exact j_zret C O (by decide) dX4_isHigh_67
theorem w_Rule_isHigh_30 {G : jG} {X : jX} (C : jC G X cX4_isHigh 4 RX4 3 116) {v1 : Int32} {v2 : Int32} {v3 : Int32} {h : Hp} {out : ((Int32 × Int32 × Int32) ⊕ Int32)} (O : (O_Rule_isHigh_30 G X h) out) (hm : s_Rule_isHigh_30 v1 v2 v3 h = some out) : J G X 30 [(0, .ref (G.1 + 78)), (1, .int v1), (2, .int v2), (3, .int v3)] [] h := by
  unfold s_Rule_isHigh_30 at hm
  refine j_iload_n C 3 dX4_isHigh_30 rfl rfl ?_
  refine j_bipush C 60 dX4_isHigh_31 (by decide) ?_
  refine j_if_icmpgt C 74 dX4_isHigh_33 (by decide) hm (fun hm => ?_) (fun hm => ?_)
  · refine j_iconst C 1 dX4_isHigh_74 (by decide) ?_
    obtain rfl := Option.some.inj hm
    exact j_zret C O (by decide) dX4_isHigh_75
  · refine j_aload_n C 0 dX4_isHigh_36 rfl rfl ?_
    refine j_gS C f_X4_26 n_78 q_78_0 dX4_isHigh_37 ?_
    refine j_iconst C 0 dX4_isHigh_40 (by decide) ?_
    refine j_iload_n C 1 dX4_isHigh_41 rfl rfl ?_
    refine j_iload_n C 3 dX4_isHigh_42 rfl rfl ?_
    refine j_isub C dX4_isHigh_43 ?_
    refine j_cV C l_X4_45 [.int ((0 : Int32)), .int (v1 - v3)] [] (fun u1 => some (.int u1)) (fun _ => h) (fun u1 => [.int u1]) n_50 hm (fun l u hu => c_Water_levelToday hu) rfl (Nat.le_of_ble_eq_true rfl) rfl (Nat.le_of_ble_eq_true rfl) (Nat.le_of_ble_eq_true rfl) (fun _ => rfl) dX4_isHigh_44 (fun u1 hm => ?_)
    refine j_iload_n C 2 dX4_isHigh_47 rfl rfl ?_
    refine j_if_icmpge C 66 dX4_isHigh_48 (by decide) hm (fun hm => ?_) (fun hm => ?_)
    · obtain ⟨o_0, hm_0, rfl⟩ := inr_inv hm
      refine j_sub (L' := []) [] rfl ?_
      exact w_Rule_isHigh_66 C O hm_0
    · refine j_aload_n C 0 dX4_isHigh_51 rfl rfl ?_
      refine j_gS C f_X4_26 n_78 q_78_0 dX4_isHigh_52 ?_
      refine j_iconst C 0 dX4_isHigh_55 (by decide) ?_
      refine j_iload_n C 1 dX4_isHigh_56 rfl rfl ?_
      refine j_iload_n C 3 dX4_isHigh_57 rfl rfl ?_
      refine j_iadd C dX4_isHigh_58 ?_
      refine j_cV C l_X4_45 [.int ((0 : Int32)), .int (v1 + v3)] [] (fun u2 => some (.int u2)) (fun _ => h) (fun u2 => [.int u2]) n_50 hm (fun l u hu => c_Water_levelToday hu) rfl (Nat.le_of_ble_eq_true rfl) rfl (Nat.le_of_ble_eq_true rfl) (Nat.le_of_ble_eq_true rfl) (fun _ => rfl) dX4_isHigh_59 (fun u2 hm => ?_)
      refine j_iload_n C 2 dX4_isHigh_62 rfl rfl ?_
      refine j_if_icmple C 68 dX4_isHigh_63 (by decide) hm (fun hm => ?_) (fun hm => ?_)
      · refine j_iinc C 3 [(3, .int (v3 + (1 : Int32))), (0, .ref (G.1 + 78)), (1, .int v1), (2, .int v2)] dX4_isHigh_68 rfl (add_lit (by decide)) (by decide) rfl ?_
        refine j_goto C 30 dX4_isHigh_71 (by decide) ?_
        obtain rfl := Option.some.inj hm
        refine j_sub (L' := [(0, .ref (G.1 + 78)), (1, .int v1), (2, .int v2), (3, .int (v3 + (1 : Int32)))]) [1, 2, 3, 0] rfl ?_
        exact O
      · obtain ⟨o_0, hm_0, rfl⟩ := inr_inv hm
        refine j_sub (L' := []) [] rfl ?_
        exact w_Rule_isHigh_66 C O hm_0
theorem k_Rule_isHigh_30 {G : jG} {X : jX} (C : jC G X cX4_isHigh 4 RX4 3 116) {v1 : Int32} {v2 : Int32} {v3 : Int32} {h : Hp} {out : Int32} (O : (O_Rule_isHigh G X h) out) (hm : lp (fun q => s_Rule_isHigh_30 q.1 q.2.1 q.2.2 h) (v1, v2, v3) = some out) : J G X 30 [(0, .ref (G.1 + 78)), (1, .int v1), (2, .int v2), (3, .int v3)] [] h :=
  lp_ok (P := P_Rule_isHigh_30 G X h) (O := (O_Rule_isHigh G X h)) (fun q r hm O => w_Rule_isHigh_30 C O hm) hm O
theorem w_Rule_isHigh {G : jG} {X : jX} (C : jC G X cX4_isHigh 4 RX4 3 116) {v1 : Int32} {h : Hp} {out : Int32} (O : (O_Rule_isHigh G X h) out) (hm : s_Rule_isHigh v1 h = some out) : J G X 0 [(0, .ref (G.1 + 78)), (1, .int v1)] [] h := by
  unfold s_Rule_isHigh at hm
  refine j_iload_n C 1 dX4_isHigh_0 rfl rfl ?_
  refine j_bipush C 60 dX4_isHigh_1 (by decide) ?_
  refine j_if_icmplt C 16 dX4_isHigh_3 (by decide) hm (fun hm => ?_) (fun hm => ?_)
  · refine j_sub (L' := []) [] rfl ?_
    exact w_Rule_isHigh_16 C O hm
  · refine j_iload_n C 1 dX4_isHigh_6 rfl rfl ?_
    refine j_bipush C 60 dX4_isHigh_7 (by decide) ?_
    refine j_iadd C dX4_isHigh_9 ?_
    refine j_sipush C 1440 dX4_isHigh_10 (by decide) ?_
    refine j_if_icmplt C 18 dX4_isHigh_13 (by decide) hm (fun hm => ?_) (fun hm => ?_)
    · refine j_aload_n C 0 dX4_isHigh_18 rfl rfl ?_
      refine j_gS C f_X4_26 n_78 q_78_0 dX4_isHigh_19 ?_
      refine j_iconst C 0 dX4_isHigh_22 (by decide) ?_
      refine j_iload_n C 1 dX4_isHigh_23 rfl rfl ?_
      refine j_cV C l_X4_45 [.int ((0 : Int32)), .int v1] [] (fun u1 => some (.int u1)) (fun _ => h) (fun u1 => [.int u1]) n_50 hm (fun l u hu => c_Water_levelToday hu) rfl (Nat.le_of_ble_eq_true rfl) rfl (Nat.le_of_ble_eq_true rfl) (Nat.le_of_ble_eq_true rfl) (fun _ => rfl) dX4_isHigh_24 (fun u1 hm => ?_)
      refine j_istore_n C [(2, .int u1), (0, .ref (G.1 + 78)), (1, .int v1)] dX4_isHigh_27 rfl (by decide) rfl ?_
      refine j_iconst C 1 dX4_isHigh_28 (by decide) ?_
      refine j_istore_n C [(3, .int ((1 : Int32))), (2, .int u1), (0, .ref (G.1 + 78)), (1, .int v1)] dX4_isHigh_29 rfl (by decide) rfl ?_
      refine j_sub (L' := [(0, .ref (G.1 + 78)), (1, .int v1), (2, .int u1), (3, .int ((1 : Int32)))]) [2, 3, 1, 0] rfl ?_
      exact k_Rule_isHigh_30 C O hm
    · refine j_sub (L' := []) [] rfl ?_
      exact w_Rule_isHigh_16 C O hm
theorem c_Rule_isHigh {G : jG} {l : Launch} {v1 : Int32} {h : Hp} {out : Int32} (hm : s_Rule_isHigh v1 h = some out) : mt G l yX4_isHigh cX4_isHigh 4 (some .boolean) 3 116 [.ref (G.1 + 78), .int v1] h (some (.int out)) h :=
  mt_of (by decide) (Nat.le_of_ble_eq_true rfl) _ rfl (fun X I C O => w_Rule_isHigh C O hm)
noncomputable def s_Water_isSlack (v1 : Int32) (h : Hp) : Option Int32 :=
  ib v1 1440 <| (s_Water_isStill (hI h 57 (ix v1)) h).bind fun u1 => bz u1 <| some (u1)
def O_Water_isSlack (G : jG) (X : jX) (h : Hp) (out : Int32) : Prop := jO G X (some .boolean) (some (.int out)) h
theorem w_Water_isSlack {G : jG} {X : jX} (C : jC G X cX9_isSlack 2 RX9 2 91) {v1 : Int32} {h : Hp} {out : Int32} (O : (O_Water_isSlack G X h) out) (hm : s_Water_isSlack v1 h = some out) : J G X 0 [(0, .ref (G.1 + 50)), (1, .int v1)] [] h := by
  unfold s_Water_isSlack at hm
  refine j_aload_n C 0 dX9_isSlack_0 rfl rfl ?_
  refine j_aload_n C 0 dX9_isSlack_1 rfl rfl ?_
  refine j_gS C f_X9_29 n_50 q_50_5 dX9_isSlack_2 ?_
  refine j_iload_n C 1 dX9_isSlack_5 rfl rfl ?_
  refine j_iald C n_57 hm dX9_isSlack_6 (fun hm => ?_)
  refine j_cV C l_X9_165 [.int (hI h 57 (ix v1))] [] (fun u1 => some (.int u1)) (fun _ => h) (fun u1 => [.int u1]) n_50 hm (fun l u hu => c_Water_isStill hu) rfl (Nat.le_of_ble_eq_true rfl) rfl (Nat.le_of_ble_eq_true rfl) (Nat.le_of_ble_eq_true rfl) (fun _ => rfl) dX9_isSlack_7 (fun u1 hm => ?_)
  obtain ⟨cz, hm⟩ := bz_inv hm
  obtain rfl := Option.some.inj hm
  exact j_zret C O cz dX9_isSlack_10
theorem c_Water_isSlack {G : jG} {l : Launch} {v1 : Int32} {h : Hp} {out : Int32} (hm : s_Water_isSlack v1 h = some out) : mt G l yX9_isSlack cX9_isSlack 2 (some .boolean) 2 91 [.ref (G.1 + 50), .int v1] h (some (.int out)) h :=
  mt_of (by decide) (Nat.le_of_ble_eq_true rfl) _ rfl (fun X I C O => w_Water_isSlack C O hm)
