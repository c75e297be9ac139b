noncomputable def s_Ways_surveyStep_145 (v1 : Int32) (v2 : Int32) (v3 : Int32) (v4 : Int64) (v6 : Int64) (v8 : Int64) (v12 : Int32) (s0 : Int64) (s1 : Int64) (h : Hp) : Option ((Int32 × Int32 × Int32 × Int64 × Int64 × Int64 × Int64 × Int32 × Hp) ⊕ Hp) :=
  some (.inl (v1, v2, v3, v4, v6, v8, (s1 ||| s0), (v12 + (1 : Int32)), h))
noncomputable def s_Ways_surveyStep_117 (v1 : Int32) (v2 : Int32) (v3 : Int32) (v4 : Int64) (v6 : Int64) (v10 : Int64) (v12 : Int32) (v13 : Int32) (v14 : Int64) (s0 : Int64) (s1 : Int64) (h : Hp) : Option ((Int32 × Int32 × Int32 × Int64 × Int64 × Int64 × Int64 × Int32 × Hp) ⊕ Hp) :=
  ib ((6 : Int32)) 11 <| if (v2 - v13) < (hI h 4 (ix ((6 : Int32)))) then
    s_Ways_surveyStep_145 v1 v2 v3 v4 v6 (s1 ||| s0) v12 ((0 : Int64)) v10 h
  else
    s_Ways_surveyStep_145 v1 v2 v3 v4 v6 (s1 ||| s0) v12 v14 v10 h
noncomputable def s_Ways_surveyStep_89 (v1 : Int32) (v2 : Int32) (v3 : Int32) (v4 : Int64) (v8 : Int64) (v10 : Int64) (v12 : Int32) (v13 : Int32) (v14 : Int64) (s0 : Int64) (s1 : Int64) (h : Hp) : Option ((Int32 × Int32 × Int32 × Int64 × Int64 × Int64 × Int64 × Int32 × Hp) ⊕ Hp) :=
  ib ((6 : Int32)) 11 <| if (v2 + v13) < (hI h 4 (ix ((6 : Int32)))) then
    s_Ways_surveyStep_117 v1 v2 v3 v4 (s1 ||| s0) v10 v12 v13 v14 ((0 : Int64)) v8 h
  else
    s_Ways_surveyStep_117 v1 v2 v3 v4 (s1 ||| s0) v10 v12 v13 v14 v14 v8 h
noncomputable def s_Ways_surveyStep_69 (v1 : Int32) (v2 : Int32) (v3 : Int32) (v6 : Int64) (v8 : Int64) (v10 : Int64) (v12 : Int32) (v13 : Int32) (v14 : Int64) (s0 : Int64) (s1 : Int64) (h : Hp) : Option ((Int32 × Int32 × Int32 × Int64 × Int64 × Int64 × Int64 × Int32 × Hp) ⊕ Hp) :=
  if v2 < (z_abs v13) then
    s_Ways_surveyStep_89 v1 v2 v3 (s1 ||| s0) v8 v10 v12 v13 v14 ((0 : Int64)) v6 h
  else
    s_Ways_surveyStep_89 v1 v2 v3 (s1 ||| s0) v8 v10 v12 v13 v14 v14 v6 h
noncomputable def s_Ways_surveyStep_15 (v1 : Int32) (v2 : Int32) (v3 : Int32) (v4 : Int64) (v6 : Int64) (v8 : Int64) (v10 : Int64) (v12 : Int32) (h : Hp) : Option ((Int32 × Int32 × Int32 × Int64 × Int64 × Int64 × Int64 × Int32 × Hp) ⊕ Hp) :=
  if ((6 : Int32)) ≤ v12 then
    ib v1 144 <| lt (sL h 62 (ix v1) v4) fun h1 => ib v1 144 <| lt (sL h1 63 (ix v1) v6) fun h2 => ib v1 144 <| lt (sL h2 64 (ix v1) (v8 &&& ((-563500246630913 : Int64)))) fun h3 => ib v1 144 <| some (.inr (sL h3 65 (ix v1) (v10 &&& ((-1100586419202 : Int64)))))
  else
    ib ((v1 * ((6 : Int32))) + v12) 864 <| lt (hI h 59 (ix ((v1 * ((6 : Int32))) + v12))) fun x4 => ib v12 6 <| ib ((v1 * ((6 : Int32))) + v12) 864 <| if v3 < (hI h 60 (ix ((v1 * ((6 : Int32))) + v12))) then
      s_Ways_surveyStep_69 v1 v2 v3 v6 v8 v10 v12 x4 (hL h 61 (ix v12)) ((0 : Int64)) v4 h
    else
      s_Ways_surveyStep_69 v1 v2 v3 v6 v8 v10 v12 x4 (hL h 61 (ix v12)) (hL h 61 (ix v12)) v4 h
noncomputable def s_Ways_surveyStep (v1 : Int32) (v2 : Int32) (v3 : Int32) (h : Hp) : Option Hp :=
  lp (fun q => s_Ways_surveyStep_15 q.1 q.2.1 q.2.2.1 q.2.2.2.1 q.2.2.2.2.1 q.2.2.2.2.2.1 q.2.2.2.2.2.2.1 q.2.2.2.2.2.2.2.1 q.2.2.2.2.2.2.2.2) (v1, v2, v3, ((0 : Int64)), ((0 : Int64)), ((0 : Int64)), ((0 : Int64)), ((1 : Int32)), h)
def O_Ways_surveyStep (G : jG) (X : jX) (out : Hp) : Prop := jO G X (none) none out
def P_Ways_surveyStep_15 (G : jG) (X : jX) (q : Int32 × Int32 × Int32 × Int64 × Int64 × Int64 × Int64 × Int32 × Hp) : Prop := J G X 15 [(0, .ref (G.1 + 58)), (1, .int q.1), (2, .int q.2.1), (3, .int q.2.2.1), (4, .long q.2.2.2.1), (6, .long q.2.2.2.2.1), (8, .long q.2.2.2.2.2.1), (10, .long q.2.2.2.2.2.2.1), (12, .int q.2.2.2.2.2.2.2.1)] [] q.2.2.2.2.2.2.2.2
def O_Ways_surveyStep_15 (G : jG) (X : jX) (t : ((Int32 × Int32 × Int32 × Int64 × Int64 × Int64 × Int64 × Int32 × Hp) ⊕ Hp)) : Prop := Sum.elim (P_Ways_surveyStep_15 G X) (O_Ways_surveyStep G X) t
theorem w_Ways_surveyStep_145 {G : jG} {X : jX} (C : jC G X cX10_surveyStep 16 RX10 1 70) {v1 : Int32} {v2 : Int32} {v3 : Int32} {v4 : Int64} {v6 : Int64} {v8 : Int64} {v12 : Int32} {s0 : Int64} {s1 : Int64} {h : Hp} {out : ((Int32 × Int32 × Int32 × Int64 × Int64 × Int64 × Int64 × Int32 × Hp) ⊕ Hp)} (O : (O_Ways_surveyStep_15 G X) out) (hm : s_Ways_surveyStep_145 v1 v2 v3 v4 v6 v8 v12 s0 s1 h = some out) : J G X 145 [(0, .ref (G.1 + 58)), (1, .int v1), (2, .int v2), (3, .int v3), (4, .long v4), (6, .long v6), (8, .long v8), (12, .int v12)] [.long s0, .long s1] h := by
  unfold s_Ways_surveyStep_145 at hm
  refine j_lor C dX10_surveyStep_145 ?_
  refine j_lstore C [(10, .long (s1 ||| s0)), (0, .ref (G.1 + 58)), (1, .int v1), (2, .int v2), (3, .int v3), (4, .long v4), (6, .long v6), (8, .long v8), (12, .int v12)] dX10_surveyStep_146 (by decide) rfl ?_
  refine j_iinc C 8 [(12, .int (v12 + (1 : Int32))), (10, .long (s1 ||| s0)), (0, .ref (G.1 + 58)), (1, .int v1), (2, .int v2), (3, .int v3), (4, .long v4), (6, .long v6), (8, .long v8)] dX10_surveyStep_148 rfl (add_lit (by decide)) (by decide) rfl ?_
  refine j_goto C 15 dX10_surveyStep_151 (by decide) ?_
  obtain rfl := Option.some.inj hm
  refine j_sub (L' := [(0, .ref (G.1 + 58)), (1, .int v1), (2, .int v2), (3, .int v3), (4, .long v4), (6, .long v6), (8, .long v8), (10, .long (s1 ||| s0)), (12, .int (v12 + (1 : Int32)))]) [2, 3, 4, 5, 6, 7, 8, 1, 0] rfl ?_
  exact O
theorem w_Ways_surveyStep_117 {G : jG} {X : jX} (C : jC G X cX10_surveyStep 16 RX10 1 70) {v1 : Int32} {v2 : Int32} {v3 : Int32} {v4 : Int64} {v6 : Int64} {v10 : Int64} {v12 : Int32} {v13 : Int32} {v14 : Int64} {s0 : Int64} {s1 : Int64} {h : Hp} {out : ((Int32 × Int32 × Int32 × Int64 × Int64 × Int64 × Int64 × Int32 × Hp) ⊕ Hp)} (O : (O_Ways_surveyStep_15 G X) out) (hm : s_Ways_surveyStep_117 v1 v2 v3 v4 v6 v10 v12 v13 v14 s0 s1 h = some out) : J G X 117 [(0, .ref (G.1 + 58)), (1, .int v1), (2, .int v2), (3, .int v3), (4, .long v4), (6, .long v6), (10, .long v10), (12, .int v12), (13, .int v13), (14, .long v14)] [.long s0, .long s1] h := by
  unfold s_Ways_surveyStep_117 at hm
  refine j_lor C dX10_surveyStep_117 ?_
  refine j_lstore C [(8, .long (s1 ||| s0)), (0, .ref (G.1 + 58)), (1, .int v1), (2, .int v2), (3, .int v3), (4, .long v4), (6, .long v6), (10, .long v10), (12, .int v12), (13, .int v13), (14, .long v14)] dX10_surveyStep_118 (by decide) rfl ?_
  refine j_lload C 7 dX10_surveyStep_120 rfl ?_
  refine j_iload_n C 3 dX10_surveyStep_122 rfl rfl ?_
  refine j_iload C 9 dX10_surveyStep_123 rfl ?_
  refine j_isub C dX10_surveyStep_125 ?_
  refine j_aload_n C 1 dX10_surveyStep_126 rfl rfl ?_
  refine j_gS C f_X10_47 n_58 q_58_0 dX10_surveyStep_127 ?_
  refine j_gS C f_X10_94 n_1 q_1_2 dX10_surveyStep_130 ?_
  refine j_bipush C 6 dX10_surveyStep_133 (by decide) ?_
  refine j_iald C n_4 hm dX10_surveyStep_135 (fun hm => ?_)
  refine j_if_icmplt C 144 dX10_surveyStep_136 (by decide) hm (fun hm => ?_) (fun hm => ?_)
  · refine j_lconst C 0 dX10_surveyStep_144 (by decide) ?_
    refine j_sub (L' := [(0, .ref (G.1 + 58)), (1, .int v1), (2, .int v2), (3, .int v3), (4, .long v4), (6, .long v6), (8, .long (s1 ||| s0)), (12, .int v12)]) [1, 2, 3, 4, 5, 6, 0, 8] rfl ?_
    exact w_Ways_surveyStep_145 C O hm
  · refine j_lload C 10 dX10_surveyStep_139 rfl ?_
    refine j_goto C 145 dX10_surveyStep_141 (by decide) ?_
    refine j_sub (L' := [(0, .ref (G.1 + 58)), (1, .int v1), (2, .int v2), (3, .int v3), (4, .long v4), (6, .long v6), (8, .long (s1 ||| s0)), (12, .int v12)]) [1, 2, 3, 4, 5, 6, 0, 8] rfl ?_
    exact w_Ways_surveyStep_145 C O hm
theorem w_Ways_surveyStep_89 {G : jG} {X : jX} (C : jC G X cX10_surveyStep 16 RX10 1 70) {v1 : Int32} {v2 : Int32} {v3 : Int32} {v4 : Int64} {v8 : Int64} {v10 : Int64} {v12 : Int32} {v13 : Int32} {v14 : Int64} {s0 : Int64} {s1 : Int64} {h : Hp} {out : ((Int32 × Int32 × Int32 × Int64 × Int64 × Int64 × Int64 × Int32 × Hp) ⊕ Hp)} (O : (O_Ways_surveyStep_15 G X) out) (hm : s_Ways_surveyStep_89 v1 v2 v3 v4 v8 v10 v12 v13 v14 s0 s1 h = some out) : J G X 89 [(0, .ref (G.1 + 58)), (1, .int v1), (2, .int v2), (3, .int v3), (4, .long v4), (8, .long v8), (10, .long v10), (12, .int v12), (13, .int v13), (14, .long v14)] [.long s0, .long s1] h := by
  unfold s_Ways_surveyStep_89 at hm
  refine j_lor C dX10_surveyStep_89 ?_
  refine j_lstore C [(6, .long (s1 ||| s0)), (0, .ref (G.1 + 58)), (1, .int v1), (2, .int v2), (3, .int v3), (4, .long v4), (8, .long v8), (10, .long v10), (12, .int v12), (13, .int v13), (14, .long v14)] dX10_surveyStep_90 (by decide) rfl ?_
  refine j_lload C 6 dX10_surveyStep_92 rfl ?_
  refine j_iload_n C 3 dX10_surveyStep_94 rfl rfl ?_
  refine j_iload C 9 dX10_surveyStep_95 rfl ?_
  refine j_iadd C dX10_surveyStep_97 ?_
  refine j_aload_n C 1 dX10_surveyStep_98 rfl rfl ?_
  refine j_gS C f_X10_47 n_58 q_58_0 dX10_surveyStep_99 ?_
  refine j_gS C f_X10_94 n_1 q_1_2 dX10_surveyStep_102 ?_
  refine j_bipush C 6 dX10_surveyStep_105 (by decide) ?_
  refine j_iald C n_4 hm dX10_surveyStep_107 (fun hm => ?_)
  refine j_if_icmplt C 116 dX10_surveyStep_108 (by decide) hm (fun hm => ?_) (fun hm => ?_)
  · refine j_lconst C 0 dX10_surveyStep_116 (by decide) ?_
    refine j_sub (L' := [(0, .ref (G.1 + 58)), (1, .int v1), (2, .int v2), (3, .int v3), (4, .long v4), (6, .long (s1 ||| s0)), (10, .long v10), (12, .int v12), (13, .int v13), (14, .long v14)]) [1, 2, 3, 4, 5, 0, 7, 8, 9, 10] rfl ?_
    exact w_Ways_surveyStep_117 C O hm
  · refine j_lload C 10 dX10_surveyStep_111 rfl ?_
    refine j_goto C 117 dX10_surveyStep_113 (by decide) ?_
    refine j_sub (L' := [(0, .ref (G.1 + 58)), (1, .int v1), (2, .int v2), (3, .int v3), (4, .long v4), (6, .long (s1 ||| s0)), (10, .long v10), (12, .int v12), (13, .int v13), (14, .long v14)]) [1, 2, 3, 4, 5, 0, 7, 8, 9, 10] rfl ?_
    exact w_Ways_surveyStep_117 C O hm
theorem w_Ways_surveyStep_69 {G : jG} {X : jX} (C : jC G X cX10_surveyStep 16 RX10 1 70) {v1 : Int32} {v2 : Int32} {v3 : Int32} {v6 : Int64} {v8 : Int64} {v10 : Int64} {v12 : Int32} {v13 : Int32} {v14 : Int64} {s0 : Int64} {s1 : Int64} {h : Hp} {out : ((Int32 × Int32 × Int32 × Int64 × Int64 × Int64 × Int64 × Int32 × Hp) ⊕ Hp)} (O : (O_Ways_surveyStep_15 G X) out) (hm : s_Ways_surveyStep_69 v1 v2 v3 v6 v8 v10 v12 v13 v14 s0 s1 h = some out) : J G X 69 [(0, .ref (G.1 + 58)), (1, .int v1), (2, .int v2), (3, .int v3), (6, .long v6), (8, .long v8), (10, .long v10), (12, .int v12), (13, .int v13), (14, .long v14)] [.long s0, .long s1] h := by
  unfold s_Ways_surveyStep_69 at hm
  refine j_lor C dX10_surveyStep_69 ?_
  refine j_lstore C [(4, .long (s1 ||| s0)), (0, .ref (G.1 + 58)), (1, .int v1), (2, .int v2), (3, .int v3), (6, .long v6), (8, .long v8), (10, .long v10), (12, .int v12), (13, .int v13), (14, .long v14)] dX10_surveyStep_70 (by decide) rfl ?_
  refine j_lload C 5 dX10_surveyStep_72 rfl ?_
  refine j_iload C 9 dX10_surveyStep_74 rfl ?_
  refine j_mabs C wd_1037 wd_942 wd_126 wd_943 (Nat.le_of_ble_eq_true rfl) (Nat.le_of_ble_eq_true rfl) dX10_surveyStep_76 ?_
  refine j_iload_n C 3 dX10_surveyStep_79 rfl rfl ?_
  refine j_if_icmpgt C 88 dX10_surveyStep_80 (by decide) hm (fun hm => ?_) (fun hm => ?_)
  · refine j_lconst C 0 dX10_surveyStep_88 (by decide) ?_
    refine j_sub (L' := [(0, .ref (G.1 + 58)), (1, .int v1), (2, .int v2), (3, .int v3), (4, .long (s1 ||| s0)), (8, .long v8), (10, .long v10), (12, .int v12), (13, .int v13), (14, .long v14)]) [1, 2, 3, 4, 0, 6, 7, 8, 9, 10] rfl ?_
    exact w_Ways_surveyStep_89 C O hm
  · refine j_lload C 10 dX10_surveyStep_83 rfl ?_
    refine j_goto C 89 dX10_surveyStep_85 (by decide) ?_
    refine j_sub (L' := [(0, .ref (G.1 + 58)), (1, .int v1), (2, .int v2), (3, .int v3), (4, .long (s1 ||| s0)), (8, .long v8), (10, .long v10), (12, .int v12), (13, .int v13), (14, .long v14)]) [1, 2, 3, 4, 0, 6, 7, 8, 9, 10] rfl ?_
    exact w_Ways_surveyStep_89 C O hm
theorem w_Ways_surveyStep_15 {G : jG} {X : jX} (C : jC G X cX10_surveyStep 16 RX10 1 70) {v1 : Int32} {v2 : Int32} {v3 : Int32} {v4 : Int64} {v6 : Int64} {v8 : Int64} {v10 : Int64} {v12 : Int32} {h : Hp} {out : ((Int32 × Int32 × Int32 × Int64 × Int64 × Int64 × Int64 × Int32 × Hp) ⊕ Hp)} (O : (O_Ways_surveyStep_15 G X) out) (hm : s_Ways_surveyStep_15 v1 v2 v3 v4 v6 v8 v10 v12 h = some out) : J G X 15 [(0, .ref (G.1 + 58)), (1, .int v1), (2, .int v2), (3, .int v3), (4, .long v4), (6, .long v6), (8, .long v8), (10, .long v10), (12, .int v12)] [] h := by
  unfold s_Ways_surveyStep_15 at hm
  refine j_iload C 8 dX10_surveyStep_15 rfl ?_
  refine j_bipush C 6 dX10_surveyStep_17 (by decide) ?_
  refine j_if_icmpge C 154 dX10_surveyStep_19 (by decide) hm (fun hm => ?_) (fun hm => ?_)
  · refine j_aload_n C 0 dX10_surveyStep_154 rfl rfl ?_
    refine j_gS C f_X10_22 n_58 q_58_5 dX10_surveyStep_155 ?_
    refine j_iload_n C 1 dX10_surveyStep_158 rfl rfl ?_
    refine j_lload C 4 dX10_surveyStep_159 rfl ?_
    refine j_last C n_62 hm dX10_surveyStep_161 (fun hm => ?_)
    refine j_aload_n C 0 dX10_surveyStep_162 rfl rfl ?_
    refine j_nmH hm (fun h1 hm => ?_)
    refine j_gS C f_X10_25 n_58 q_58_6 dX10_surveyStep_163 ?_
    refine j_iload_n C 1 dX10_surveyStep_166 rfl rfl ?_
    refine j_lload C 5 dX10_surveyStep_167 rfl ?_
    refine j_last C n_63 hm dX10_surveyStep_169 (fun hm => ?_)
    refine j_aload_n C 0 dX10_surveyStep_170 rfl rfl ?_
    refine j_nmH hm (fun h2 hm => ?_)
    refine j_gS C f_X10_28 n_58 q_58_7 dX10_surveyStep_171 ?_
    refine j_iload_n C 1 dX10_surveyStep_174 rfl rfl ?_
    refine j_lload C 6 dX10_surveyStep_175 rfl ?_
    refine j_ldc2 C wd_1038 dX10_surveyStep_177 ?_
    refine j_land C dX10_surveyStep_180 ?_
    refine j_last C n_64 hm dX10_surveyStep_181 (fun hm => ?_)
    refine j_aload_n C 0 dX10_surveyStep_182 rfl rfl ?_
    refine j_nmH hm (fun h3 hm => ?_)
    refine j_gS C f_X10_31 n_58 q_58_8 dX10_surveyStep_183 ?_
    refine j_iload_n C 1 dX10_surveyStep_186 rfl rfl ?_
    refine j_lload C 7 dX10_surveyStep_187 rfl ?_
    refine j_ldc2 C wd_1039 dX10_surveyStep_189 ?_
    refine j_land C dX10_surveyStep_192 ?_
    refine j_last C n_65 hm dX10_surveyStep_193 (fun hm => ?_)
    obtain rfl := Option.some.inj hm
    exact j_vret C O dX10_surveyStep_194
  · refine j_aload_n C 0 dX10_surveyStep_22 rfl rfl ?_
    refine j_gS C f_X10_11 n_58 q_58_2 dX10_surveyStep_23 ?_
    refine j_iload_n C 1 dX10_surveyStep_26 rfl rfl ?_
    refine j_bipush C 6 dX10_surveyStep_27 (by decide) ?_
    refine j_imul C dX10_surveyStep_29 ?_
    refine j_iload C 8 dX10_surveyStep_30 rfl ?_
    refine j_iadd C dX10_surveyStep_32 ?_
    refine j_iald C n_59 hm dX10_surveyStep_33 (fun hm => ?_)
    refine j_nmI hm (fun x4 hm => ?_)
    refine j_istore C [(13, .int x4), (0, .ref (G.1 + 58)), (1, .int v1), (2, .int v2), (3, .int v3), (4, .long v4), (6, .long v6), (8, .long v8), (10, .long v10), (12, .int v12)] dX10_surveyStep_34 (by decide) rfl ?_
    refine j_aload_n C 1 dX10_surveyStep_36 rfl rfl ?_
    refine j_gS C f_X10_18 n_58 q_58_4 dX10_surveyStep_37 ?_
    refine j_iload C 9 dX10_surveyStep_40 rfl ?_
    refine j_lald C n_61 hm dX10_surveyStep_42 (fun hm => ?_)
    refine j_lstore C [(14, .long (hL h 61 (ix v12))), (13, .int x4), (0, .ref (G.1 + 58)), (1, .int v1), (2, .int v2), (3, .int v3), (4, .long v4), (6, .long v6), (8, .long v8), (10, .long v10), (12, .int v12)] dX10_surveyStep_43 (by decide) rfl ?_
    refine j_lload C 6 dX10_surveyStep_45 rfl ?_
    refine j_aload_n C 2 dX10_surveyStep_47 rfl rfl ?_
    refine j_gS C f_X10_15 n_58 q_58_3 dX10_surveyStep_48 ?_
    refine j_iload_n C 3 dX10_surveyStep_51 rfl rfl ?_
    refine j_bipush C 6 dX10_surveyStep_52 (by decide) ?_
    refine j_imul C dX10_surveyStep_54 ?_
    refine j_iload C 10 dX10_surveyStep_55 rfl ?_
    refine j_iadd C dX10_surveyStep_57 ?_
    refine j_iald C n_60 hm dX10_surveyStep_58 (fun hm => ?_)
    refine j_iload_n C 5 dX10_surveyStep_59 rfl rfl ?_
    refine j_if_icmpgt C 68 dX10_surveyStep_60 (by decide) hm (fun hm => ?_) (fun hm => ?_)
    · refine j_lconst C 0 dX10_surveyStep_68 (by decide) ?_
      refine j_sub (L' := [(0, .ref (G.1 + 58)), (1, .int v1), (2, .int v2), (3, .int v3), (6, .long v6), (8, .long v8), (10, .long v10), (12, .int v12), (13, .int x4), (14, .long (hL h 61 (ix v12)))]) [2, 3, 4, 5, 7, 8, 9, 10, 1, 0] rfl ?_
      exact w_Ways_surveyStep_69 C O hm
    · refine j_lload C 0 dX10_surveyStep_63 rfl ?_
      refine j_goto C 69 dX10_surveyStep_65 (by decide) ?_
      refine j_sub (L' := [(0, .ref (G.1 + 58)), (1, .int v1), (2, .int v2), (3, .int v3), (6, .long v6), (8, .long v8), (10, .long v10), (12, .int v12), (13, .int x4), (14, .long (hL h 61 (ix v12)))]) [2, 3, 4, 5, 7, 8, 9, 10, 1, 0] rfl ?_
      exact w_Ways_surveyStep_69 C O hm
theorem k_Ways_surveyStep_15 {G : jG} {X : jX} (C : jC G X cX10_surveyStep 16 RX10 1 70) {v1 : Int32} {v2 : Int32} {v3 : Int32} {v4 : Int64} {v6 : Int64} {v8 : Int64} {v10 : Int64} {v12 : Int32} {h : Hp} {out : Hp} (O : (O_Ways_surveyStep G X) out) (hm : lp (fun q => s_Ways_surveyStep_15 q.1 q.2.1 q.2.2.1 q.2.2.2.1 q.2.2.2.2.1 q.2.2.2.2.2.1 q.2.2.2.2.2.2.1 q.2.2.2.2.2.2.2.1 q.2.2.2.2.2.2.2.2) (v1, v2, v3, v4, v6, v8, v10, v12, h) = some out) : J G X 15 [(0, .ref (G.1 + 58)), (1, .int v1), (2, .int v2), (3, .int v3), (4, .long v4), (6, .long v6), (8, .long v8), (10, .long v10), (12, .int v12)] [] h :=
  lp_ok (P := P_Ways_surveyStep_15 G X) (O := (O_Ways_surveyStep G X)) (fun q r hm O => w_Ways_surveyStep_15 C O hm) hm O
theorem w_Ways_surveyStep {G : jG} {X : jX} (C : jC G X cX10_surveyStep 16 RX10 1 70) {v1 : Int32} {v2 : Int32} {v3 : Int32} {h : Hp} {out : Hp} (O : (O_Ways_surveyStep G X) out) (hm : s_Ways_surveyStep v1 v2 v3 h = some out) : J G X 0 [(0, .ref (G.1 + 58)), (1, .int v1), (2, .int v2), (3, .int v3)] [] h := by
  unfold s_Ways_surveyStep at hm
  refine j_lconst C 0 dX10_surveyStep_0 (by decide) ?_
  refine j_lstore C [(4, .long ((0 : Int64))), (0, .ref (G.1 + 58)), (1, .int v1), (2, .int v2), (3, .int v3)] dX10_surveyStep_1 (by decide) rfl ?_
  refine j_lconst C 0 dX10_surveyStep_3 (by decide) ?_
  refine j_lstore C [(6, .long ((0 : Int64))), (4, .long ((0 : Int64))), (0, .ref (G.1 + 58)), (1, .int v1), (2, .int v2), (3, .int v3)] dX10_surveyStep_4 (by decide) rfl ?_
  refine j_lconst C 0 dX10_surveyStep_6 (by decide) ?_
  refine j_lstore C [(8, .long ((0 : Int64))), (6, .long ((0 : Int64))), (4, .long ((0 : Int64))), (0, .ref (G.1 + 58)), (1, .int v1), (2, .int v2), (3, .int v3)] dX10_surveyStep_7 (by decide) rfl ?_
  refine j_lconst C 0 dX10_surveyStep_9 (by decide) ?_
  refine j_lstore C [(10, .long ((0 : Int64))), (8, .long ((0 : Int64))), (6, .long ((0 : Int64))), (4, .long ((0 : Int64))), (0, .ref (G.1 + 58)), (1, .int v1), (2, .int v2), (3, .int v3)] dX10_surveyStep_10 (by decide) rfl ?_
  refine j_iconst C 1 dX10_surveyStep_12 (by decide) ?_
  refine j_istore C [(12, .int ((1 : Int32))), (10, .long ((0 : Int64))), (8, .long ((0 : Int64))), (6, .long ((0 : Int64))), (4, .long ((0 : Int64))), (0, .ref (G.1 + 58)), (1, .int v1), (2, .int v2), (3, .int v3)] dX10_surveyStep_13 (by decide) rfl ?_
  refine j_sub (L' := [(0, .ref (G.1 + 58)), (1, .int v1), (2, .int v2), (3, .int v3), (4, .long ((0 : Int64))), (6, .long ((0 : Int64))), (8, .long ((0 : Int64))), (10, .long ((0 : Int64))), (12, .int ((1 : Int32)))]) [5, 6, 7, 8, 4, 3, 2, 1, 0] rfl ?_
  exact k_Ways_surveyStep_15 C O hm
theorem c_Ways_surveyStep {G : jG} {l : Launch} {v1 : Int32} {v2 : Int32} {v3 : Int32} {h : Hp} {out : Hp} (hm : s_Ways_surveyStep v1 v2 v3 h = some out) : mt G l yX10_surveyStep cX10_surveyStep 16 (none) 1 70 [.ref (G.1 + 58), .int v1, .int v2, .int v3] h none out :=
  mt_of (by decide) (Nat.le_of_ble_eq_true rfl) _ rfl (fun X I C O => w_Ways_surveyStep C O hm)
noncomputable def s_Ways_survey_48 (v1 : Int32) (v2 : Int32) (h : Hp) : Option ((Int32 × Int32 × Hp) ⊕ Hp) :=
  if ((144 : Int32)) ≤ v2 then
    some (.inr h)
  else
    ib v1 6 <| ib v1 6 <| (s_Ways_surveyStep v2 (hI h 7 (ix v1)) (hI h 8 (ix v1)) h).bind fun u1 => some (.inl (v1, (v2 + (1 : Int32)), u1))
noncomputable def s_Ways_survey_14 (v1 : Int32) (v2 : Int32) (h : Hp) : Option ((Int32 × Int32 × Hp) ⊕ Hp) :=
  if ((50 : Int32)) ≤ v2 then
    inr (lp (fun q => s_Ways_survey_48 q.1 q.2.1 q.2.2) (v1, ((0 : Int32)), h))
  else
    ib v2 50 <| ib (hI h 5 (ix v2)) 6 <| ib (hI h 5 (ix v2)) 6 <| some (.inl (v1, (v2 + (1 : Int32)), (sL h 61 (ix (hI h 5 (ix v2))) ((hL h 61 (ix (hI h 5 (ix v2)))) ||| (z_lshl ((1 : Int64)) v2)))))
noncomputable def s_Ways_survey (v1 : Int32) (h : Hp) : Option Hp :=
  (s_Ways_freshenSteps h).bind fun u1 => (s_Arr_fillL 61 ((0 : Int64)) u1).bind fun u2 => lp (fun q => s_Ways_survey_14 q.1 q.2.1 q.2.2) (v1, ((0 : Int32)), u2)
def O_Ways_survey (G : jG) (X : jX) (out : Hp) : Prop := jO G X (none) none out
def P_Ways_survey_14 (G : jG) (X : jX) (q : Int32 × Int32 × Hp) : Prop := J G X 14 [(0, .ref (G.1 + 58)), (1, .int q.1), (2, .int q.2.1)] [] q.2.2
def O_Ways_survey_14 (G : jG) (X : jX) (t : ((Int32 × Int32 × Hp) ⊕ Hp)) : Prop := Sum.elim (P_Ways_survey_14 G X) (O_Ways_survey G X) t
def P_Ways_survey_48 (G : jG) (X : jX) (q : Int32 × Int32 × Hp) : Prop := J G X 48 [(0, .ref (G.1 + 58)), (1, .int q.1), (2, .int q.2.1)] [] q.2.2
def O_Ways_survey_48 (G : jG) (X : jX) (t : ((Int32 × Int32 × Hp) ⊕ Hp)) : Prop := Sum.elim (P_Ways_survey_48 G X) (O_Ways_survey G X) t
theorem w_Ways_survey_48 {G : jG} {X : jX} (C : jC G X cX10_survey 3 RX10 6 203) {v1 : Int32} {v2 : Int32} {h : Hp} {out : ((Int32 × Int32 × Hp) ⊕ Hp)} (O : (O_Ways_survey_48 G X) out) (hm : s_Ways_survey_48 v1 v2 h = some out) : J G X 48 [(0, .ref (G.1 + 58)), (1, .int v1), (2, .int v2)] [] h := by
  unfold s_Ways_survey_48 at hm
  refine j_iload_n C 2 dX10_survey_48 rfl rfl ?_
  refine j_sipush C 144 dX10_survey_49 (by decide) ?_
  refine j_if_icmpge C 84 dX10_survey_52 (by decide) hm (fun hm => ?_) (fun hm => ?_)
  · obtain rfl := Option.some.inj hm
    exact j_vret C O dX10_survey_84
  · refine j_aload_n C 0 dX10_survey_55 rfl rfl ?_
    refine j_iload_n C 2 dX10_survey_56 rfl rfl ?_
    refine j_aload_n C 0 dX10_survey_57 rfl rfl ?_
    refine j_gS C f_X10_47 n_58 q_58_0 dX10_survey_58 ?_
    refine j_gS C f_X10_69 n_1 q_1_5 dX10_survey_61 ?_
    refine j_iload_n C 1 dX10_survey_64 rfl rfl ?_
    refine j_iald C n_7 hm dX10_survey_65 (fun hm => ?_)
    refine j_aload_n C 0 dX10_survey_66 rfl rfl ?_
    refine j_gS C f_X10_47 n_58 q_58_0 dX10_survey_67 ?_
    refine j_gS C f_X10_72 n_1 q_1_6 dX10_survey_70 ?_
    refine j_iload_n C 1 dX10_survey_73 rfl rfl ?_
    refine j_iald C n_8 hm dX10_survey_74 (fun hm => ?_)
    refine j_cV C l_X10_75 [.int v2, .int (hI h 7 (ix v1)), .int (hI h 8 (ix v1))] [] (fun _ => none) (fun u1 => u1) (fun u1 => []) n_58 hm (fun l u hu => c_Ways_surveyStep hu) rfl (Nat.le_of_ble_eq_true rfl) rfl (Nat.le_of_ble_eq_true rfl) (Nat.le_of_ble_eq_true rfl) (fun _ => rfl) dX10_survey_75 (fun u1 hm => ?_)
    refine j_iinc C 2 [(2, .int (v2 + (1 : Int32))), (0, .ref (G.1 + 58)), (1, .int v1)] dX10_survey_78 rfl (add_lit (by decide)) (by decide) rfl ?_
    refine j_goto C 48 dX10_survey_81 (by decide) ?_
    obtain rfl := Option.some.inj hm
    refine j_sub (L' := [(0, .ref (G.1 + 58)), (1, .int v1), (2, .int (v2 + (1 : Int32)))]) [1, 2, 0] rfl ?_
    exact O
theorem k_Ways_survey_48 {G : jG} {X : jX} (C : jC G X cX10_survey 3 RX10 6 203) {v1 : Int32} {v2 : Int32} {h : Hp} {out : Hp} (O : (O_Ways_survey G X) out) (hm : lp (fun q => s_Ways_survey_48 q.1 q.2.1 q.2.2) (v1, v2, h) = some out) : J G X 48 [(0, .ref (G.1 + 58)), (1, .int v1), (2, .int v2)] [] h :=
  lp_ok (P := P_Ways_survey_48 G X) (O := (O_Ways_survey G X)) (fun q r hm O => w_Ways_survey_48 C O hm) hm O
theorem w_Ways_survey_14 {G : jG} {X : jX} (C : jC G X cX10_survey 3 RX10 6 203) {v1 : Int32} {v2 : Int32} {h : Hp} {out : ((Int32 × Int32 × Hp) ⊕ Hp)} (O : (O_Ways_survey_14 G X) out) (hm : s_Ways_survey_14 v1 v2 h = some out) : J G X 14 [(0, .ref (G.1 + 58)), (1, .int v1), (2, .int v2)] [] h := by
  unfold s_Ways_survey_14 at hm
  refine j_iload_n C 2 dX10_survey_14 rfl rfl ?_
  refine j_bipush C 50 dX10_survey_15 (by decide) ?_
  refine j_if_icmpge C 46 dX10_survey_17 (by decide) hm (fun hm => ?_) (fun hm => ?_)
  · refine j_iconst C 0 dX10_survey_46 (by decide) ?_
    refine j_istore_n C [(2, .int ((0 : Int32))), (0, .ref (G.1 + 58)), (1, .int v1)] dX10_survey_47 rfl (by decide) rfl ?_
    obtain ⟨o_0, hm_0, rfl⟩ := inr_inv hm
    refine j_sub (L' := [(0, .ref (G.1 + 58)), (1, .int v1), (2, .int ((0 : Int32)))]) [1, 2, 0] rfl ?_
    exact k_Ways_survey_48 C O hm_0
  · refine j_aload_n C 0 dX10_survey_20 rfl rfl ?_
    refine j_gS C f_X10_18 n_58 q_58_4 dX10_survey_21 ?_
    refine j_aload_n C 0 dX10_survey_24 rfl rfl ?_
    refine j_gS C f_X10_47 n_58 q_58_0 dX10_survey_25 ?_
    refine j_gS C f_X10_64 n_1 q_1_3 dX10_survey_28 ?_
    refine j_iload_n C 2 dX10_survey_31 rfl rfl ?_
    refine j_iald C n_5 hm dX10_survey_32 (fun hm => ?_)
    refine j_dup2_11 C dX10_survey_33 rfl rfl ?_
    refine j_lald C n_61 hm dX10_survey_34 (fun hm => ?_)
    refine j_lconst C 1 dX10_survey_35 (by decide) ?_
    refine j_iload_n C 2 dX10_survey_36 rfl rfl ?_
    refine j_lshl C dX10_survey_37 ?_
    refine j_lor C dX10_survey_38 ?_
    refine j_last C n_61 hm dX10_survey_39 (fun hm => ?_)
    refine j_iinc C 2 [(2, .int (v2 + (1 : Int32))), (0, .ref (G.1 + 58)), (1, .int v1)] dX10_survey_40 rfl (add_lit (by decide)) (by decide) rfl ?_
    refine j_goto C 14 dX10_survey_43 (by decide) ?_
    obtain rfl := Option.some.inj hm
    refine j_sub (L' := [(0, .ref (G.1 + 58)), (1, .int v1), (2, .int (v2 + (1 : Int32)))]) [1, 2, 0] rfl ?_
    exact O
theorem k_Ways_survey_14 {G : jG} {X : jX} (C : jC G X cX10_survey 3 RX10 6 203) {v1 : Int32} {v2 : Int32} {h : Hp} {out : Hp} (O : (O_Ways_survey G X) out) (hm : lp (fun q => s_Ways_survey_14 q.1 q.2.1 q.2.2) (v1, v2, h) = some out) : J G X 14 [(0, .ref (G.1 + 58)), (1, .int v1), (2, .int v2)] [] h :=
  lp_ok (P := P_Ways_survey_14 G X) (O := (O_Ways_survey G X)) (fun q r hm O => w_Ways_survey_14 C O hm) hm O
theorem w_Ways_survey {G : jG} {X : jX} (C : jC G X cX10_survey 3 RX10 6 203) {v1 : Int32} {h : Hp} {out : Hp} (O : (O_Ways_survey G X) out) (hm : s_Ways_survey v1 h = some out) : J G X 0 [(0, .ref (G.1 + 58)), (1, .int v1)] [] h := by
  unfold s_Ways_survey at hm
  refine j_aload_n C 0 dX10_survey_0 rfl rfl ?_
  refine j_cV C l_X10_55 [] [] (fun _ => none) (fun u1 => u1) (fun u1 => []) n_58 hm (fun l u hu => c_Ways_freshenSteps hu) rfl (Nat.le_of_ble_eq_true rfl) rfl (Nat.le_of_ble_eq_true rfl) (Nat.le_of_ble_eq_true rfl) (fun _ => rfl) dX10_survey_1 (fun u1 hm => ?_)
  refine j_aload_n C 0 dX10_survey_4 rfl rfl ?_
  refine j_gS C f_X10_18 n_58 q_58_4 dX10_survey_5 ?_
  refine j_lconst C 0 dX10_survey_8 (by decide) ?_
  refine j_cS C l_X10_58 [.ref (G.1 + 61), .long ((0 : Int64))] [] (fun _ => none) (fun u2 => u2) (fun u2 => []) hm (fun l u hu => c_Arr_fillL hu) rfl (Nat.le_of_ble_eq_true rfl) rfl (Nat.le_of_ble_eq_true rfl) (Nat.le_of_ble_eq_true rfl) (fun _ => rfl) dX10_survey_9 (fun u2 hm => ?_)
  refine j_iconst C 0 dX10_survey_12 (by decide) ?_
  refine j_istore_n C [(2, .int ((0 : Int32))), (0, .ref (G.1 + 58)), (1, .int v1)] dX10_survey_13 rfl (by decide) rfl ?_
  refine j_sub (L' := [(0, .ref (G.1 + 58)), (1, .int v1), (2, .int ((0 : Int32)))]) [1, 2, 0] rfl ?_
  exact k_Ways_survey_14 C O hm
theorem c_Ways_survey {G : jG} {l : Launch} {v1 : Int32} {h : Hp} {out : Hp} (hm : s_Ways_survey v1 h = some out) : mt G l yX10_survey cX10_survey 3 (none) 6 203 [.ref (G.1 + 58), .int v1] h none out :=
  mt_of (by decide) (Nat.le_of_ble_eq_true rfl) _ rfl (fun X I C O => w_Ways_survey C O hm)
noncomputable def s_Race_calmest_30 (h : Hp) : Option (Int32 × Hp) :=
  some ((-1 : Int32), h)
noncomputable def s_Race_calmest (v1 : Int32) (v2 : Int32) (v3 : Int32) (v4 : Int32) (h : Hp) : Option (Int32 × Hp) :=
  (s_Race_isBoat v1 h).bind fun u1 => if u1 = 0 then
    s_Race_calmest_30 h
  else
    (s_Race_isStep v2 h).bind fun u2 => if u2 = 0 then
      s_Race_calmest_30 h
    else
      (s_Race_isCell v3 h).bind fun u3 => if u3 = 0 then
        s_Race_calmest_30 h
      else
        (s_Race_isCell v4 h).bind fun u4 => if u4 = 0 then
          s_Race_calmest_30 h
        else
          (s_Water_freshenToday h).bind fun u5 => (s_Ways_survey v1 u5).bind fun u6 => (s_Ways_leastWhite v2 v3 v4 u6).bind fun u7 => some (u7.1, u7.2)
def O_Race_calmest (G : jG) (X : jX) (out : (Int32 × Hp)) : Prop := jO G X (some .int) (some (.int out.1)) out.2
theorem w_Race_calmest_30 {G : jG} {X : jX} (C : jC G X cX11_calmest 5 RX11 7 230) {h : Hp} {out : (Int32 × Hp)} (O : (O_Race_calmest G X) out) (hm : s_Race_calmest_30 h = some out) : J G X 30 [] [] h := by
  unfold s_Race_calmest_30 at hm
  refine j_iconst C (-1 : Int32) dX11_calmest_30 (by decide) ?_
  obtain rfl := Option.some.inj hm
  exact j_iret C O dX11_calmest_31
theorem w_Race_calmest {G : jG} {X : jX} (C : jC G X cX11_calmest 5 RX11 7 230) {v1 : Int32} {v2 : Int32} {v3 : Int32} {v4 : Int32} {h : Hp} {out : (Int32 × Hp)} (O : (O_Race_calmest G X) out) (hm : s_Race_calmest v1 v2 v3 v4 h = some out) : J G X 0 [(0, .ref (G.1 + 0)), (1, .int v1), (2, .int v2), (3, .int v3), (4, .int v4)] [] h := by
  unfold s_Race_calmest at hm
  refine j_aload_n C 0 dX11_calmest_0 rfl rfl ?_
  refine j_iload_n C 1 dX11_calmest_1 rfl rfl ?_
  refine j_cV C l_X11_238 [.int v1] [] (fun u1 => some (.int u1)) (fun _ => h) (fun u1 => [.int u1]) n_0 hm (fun l u hu => c_Race_isBoat hu) rfl (Nat.le_of_ble_eq_true rfl) rfl (Nat.le_of_ble_eq_true rfl) (Nat.le_of_ble_eq_true rfl) (fun _ => rfl) dX11_calmest_2 (fun u1 hm => ?_)
  refine j_ifeq C 30 dX11_calmest_5 (by decide) hm (fun hm => ?_) (fun hm => ?_)
  · refine j_sub (L' := []) [] rfl ?_
    exact w_Race_calmest_30 C O hm
  · refine j_iload_n C 2 dX11_calmest_8 rfl rfl ?_
    refine j_cS C l_X11_241 [.int v2] [] (fun u2 => some (.int u2)) (fun _ => h) (fun u2 => [.int u2]) hm (fun l u hu => c_Race_isStep hu) rfl (Nat.le_of_ble_eq_true rfl) rfl (Nat.le_of_ble_eq_true rfl) (Nat.le_of_ble_eq_true rfl) (fun _ => rfl) dX11_calmest_9 (fun u2 hm => ?_)
    refine j_ifeq C 30 dX11_calmest_12 (by decide) hm (fun hm => ?_) (fun hm => ?_)
    · refine j_sub (L' := []) [] rfl ?_
      exact w_Race_calmest_30 C O hm
    · refine j_iload_n C 3 dX11_calmest_15 rfl rfl ?_
      refine j_cS C l_X11_200 [.int v3] [] (fun u3 => some (.int u3)) (fun _ => h) (fun u3 => [.int u3]) hm (fun l u hu => c_Race_isCell hu) rfl (Nat.le_of_ble_eq_true rfl) rfl (Nat.le_of_ble_eq_true rfl) (Nat.le_of_ble_eq_true rfl) (fun _ => rfl) dX11_calmest_16 (fun u3 hm => ?_)
      refine j_ifeq C 30 dX11_calmest_19 (by decide) hm (fun hm => ?_) (fun hm => ?_)
      · refine j_sub (L' := []) [] rfl ?_
        exact w_Race_calmest_30 C O hm
      · refine j_iload C 4 dX11_calmest_22 rfl ?_
        refine j_cS C l_X11_200 [.int v4] [] (fun u4 => some (.int u4)) (fun _ => h) (fun u4 => [.int u4]) hm (fun l u hu => c_Race_isCell hu) rfl (Nat.le_of_ble_eq_true rfl) rfl (Nat.le_of_ble_eq_true rfl) (Nat.le_of_ble_eq_true rfl) (fun _ => rfl) dX11_calmest_24 (fun u4 hm => ?_)
        refine j_ifne C 32 dX11_calmest_27 (by decide) hm (fun hm => ?_) (fun hm => ?_)
        · refine j_sub (L' := []) [] rfl ?_
          exact w_Race_calmest_30 C O hm
        · refine j_aload_n C 0 dX11_calmest_32 rfl rfl ?_
          refine j_gS C f_X11_45 n_0 q_0_5 dX11_calmest_33 ?_
          refine j_cV C l_X11_194 [] [] (fun _ => none) (fun u5 => u5) (fun u5 => []) n_50 hm (fun l u hu => c_Water_freshenToday hu) rfl (Nat.le_of_ble_eq_true rfl) rfl (Nat.le_of_ble_eq_true rfl) (Nat.le_of_ble_eq_true rfl) (fun _ => rfl) dX11_calmest_36 (fun u5 hm => ?_)
          refine j_aload_n C 0 dX11_calmest_39 rfl rfl ?_
          refine j_gS C f_X11_54 n_0 q_0_6 dX11_calmest_40 ?_
          refine j_iload_n C 1 dX11_calmest_43 rfl rfl ?_
          refine j_cV C l_X11_244 [.int v1] [] (fun _ => none) (fun u6 => u6) (fun u6 => []) n_58 hm (fun l u hu => c_Ways_survey hu) rfl (Nat.le_of_ble_eq_true rfl) rfl (Nat.le_of_ble_eq_true rfl) (Nat.le_of_ble_eq_true rfl) (fun _ => rfl) dX11_calmest_44 (fun u6 hm => ?_)
          refine j_aload_n C 0 dX11_calmest_47 rfl rfl ?_
          refine j_gS C f_X11_54 n_0 q_0_6 dX11_calmest_48 ?_
          refine j_iload_n C 2 dX11_calmest_51 rfl rfl ?_
          refine j_iload_n C 3 dX11_calmest_52 rfl rfl ?_
          refine j_iload C 4 dX11_calmest_53 rfl ?_
          refine j_cV C l_X11_255 [.int v2, .int v3, .int v4] [] (fun u7 => some (.int u7.1)) (fun u7 => u7.2) (fun u7 => [.int u7.1]) n_58 hm (fun l u hu => c_Ways_leastWhite hu) rfl (Nat.le_of_ble_eq_true rfl) rfl (Nat.le_of_ble_eq_true rfl) (Nat.le_of_ble_eq_true rfl) (fun _ => rfl) dX11_calmest_55 (fun u7 hm => ?_)
          obtain rfl := Option.some.inj hm
          exact j_iret C O dX11_calmest_58
theorem c_Race_calmest {G : jG} {l : Launch} {v1 : Int32} {v2 : Int32} {v3 : Int32} {v4 : Int32} {h : Hp} {out : (Int32 × Hp)} (hm : s_Race_calmest v1 v2 v3 v4 h = some out) : mt G l yX11_calmest cX11_calmest 5 (some .int) 7 230 [.ref (G.1 + 0), .int v1, .int v2, .int v3, .int v4] h (some (.int out.1)) out.2 :=
  mt_of (by decide) (Nat.le_of_ble_eq_true rfl) _ rfl (fun X I C O => w_Race_calmest C O hm)
noncomputable def s_Race_isMinute (v0 : Int32) (h : Hp) : Option Int32 :=
  (s_Race_isWithin v0 ((0 : Int32)) ((1439 : Int32)) h).bind fun u1 => bz u1 <| some (u1)
def O_Race_isMinute (G : jG) (X : jX) (h : Hp) (out : Int32) : Prop := jO G X (some .boolean) (some (.int out)) h
theorem w_Race_isMinute {G : jG} {X : jX} (C : jC G X cX11_isMinute 1 RX11 2 92) {v0 : Int32} {h : Hp} {out : Int32} (O : (O_Race_isMinute G X h) out) (hm : s_Race_isMinute v0 h = some out) : J G X 0 [(0, .int v0)] [] h := by
  unfold s_Race_isMinute at hm
  refine j_iload_n C 0 dX11_isMinute_0 rfl rfl ?_
  refine j_iconst C 0 dX11_isMinute_1 (by decide) ?_
  refine j_sipush C 1439 dX11_isMinute_2 (by decide) ?_
  refine j_cS C l_X11_102 [.int v0, .int ((0 : Int32)), .int ((1439 : Int32))] [] (fun u1 => some (.int u1)) (fun _ => h) (fun u1 => [.int u1]) hm (fun l u hu => c_Race_isWithin hu) rfl (Nat.le_of_ble_eq_true rfl) rfl (Nat.le_of_ble_eq_true rfl) (Nat.le_of_ble_eq_true rfl) (fun _ => rfl) dX11_isMinute_5 (fun u1 hm => ?_)
  obtain ⟨cz, hm⟩ := bz_inv hm
  obtain rfl := Option.some.inj hm
  exact j_zret C O cz dX11_isMinute_8
theorem c_Race_isMinute {G : jG} {l : Launch} {v0 : Int32} {h : Hp} {out : Int32} (hm : s_Race_isMinute v0 h = some out) : mt G l yX11_isMinute cX11_isMinute 1 (some .boolean) 2 92 [.int v0] h (some (.int out)) h :=
  mt_of (by decide) (Nat.le_of_ble_eq_true rfl) _ rfl (fun X I C O => w_Race_isMinute C O hm)
noncomputable def s_Race_cast_20 (h : Hp) : Option (Int32 × Hp) :=
  (s_Race_refuse ((-1 : Int32)) h).bind fun u1 => some (u1.1, u1.2)
noncomputable def s_Race_cast (v1 : Int32) (v2 : Int32) (h : Hp) : Option (Int32 × Hp) :=
  (s_Race_isMinute v1 h).bind fun u1 => if u1 = 0 then
    s_Race_cast_20 h
  else
    (s_Race_isWithin v2 ((-9999 : Int32)) ((9999 : Int32)) h).bind fun u2 => if u2 = 0 then
      s_Race_cast_20 h
    else
      if (hI h 1 18) < ((12 : Int32)) then
        ib (hI h 1 18) 12 <| lt (sI h 13 (ix (hI h 1 18)) v1) fun h3 => ib (hI h3 1 18) 12 <| lt (sI h3 14 (ix (hI h3 1 18)) v2) fun h4 => lt (sI h4 1 18 ((hI h4 1 18) + ((1 : Int32)))) fun h5 => lt (sI h5 74 5 ((-1 : Int32))) fun h6 => (s_Race_grant ((hI h6 1 18) - ((1 : Int32))) h6).bind fun u7 => some (u7.1, u7.2)
      else
        (s_Race_refuse ((-5 : Int32)) h).bind fun u8 => some (u8.1, u8.2)
def O_Race_cast (G : jG) (X : jX) (out : (Int32 × Hp)) : Prop := jO G X (some .int) (some (.int out.1)) out.2
theorem w_Race_cast_20 {G : jG} {X : jX} (C : jC G X cX11_cast 3 RX11 3 112) {h : Hp} {out : (Int32 × Hp)} (O : (O_Race_cast G X) out) (hm : s_Race_cast_20 h = some out) : J G X 20 [(0, .ref (G.1 + 0))] [] h := by
  unfold s_Race_cast_20 at hm
  refine j_aload_n C 0 dX11_cast_20 rfl rfl ?_
  refine j_iconst C (-1 : Int32) dX11_cast_21 (by decide) ?_
  refine j_cV C l_X11_112 [.int ((-1 : Int32))] [] (fun u1 => some (.int u1.1)) (fun u1 => u1.2) (fun u1 => [.int u1.1]) n_0 hm (fun l u hu => c_Race_refuse hu) rfl (Nat.le_of_ble_eq_true rfl) rfl (Nat.le_of_ble_eq_true rfl) (Nat.le_of_ble_eq_true rfl) (fun _ => rfl) dX11_cast_22 (fun u1 hm => ?_)
  obtain rfl := Option.some.inj hm
  exact j_iret C O dX11_cast_25
theorem w_Race_cast {G : jG} {X : jX} (C : jC G X cX11_cast 3 RX11 3 112) {v1 : Int32} {v2 : Int32} {h : Hp} {out : (Int32 × Hp)} (O : (O_Race_cast G X) out) (hm : s_Race_cast v1 v2 h = some out) : J G X 0 [(0, .ref (G.1 + 0)), (1, .int v1), (2, .int v2)] [] h := by
  unfold s_Race_cast at hm
  refine j_iload_n C 1 dX11_cast_0 rfl rfl ?_
  refine j_cS C l_X11_184 [.int v1] [] (fun u1 => some (.int u1)) (fun _ => h) (fun u1 => [.int u1]) hm (fun l u hu => c_Race_isMinute hu) rfl (Nat.le_of_ble_eq_true rfl) rfl (Nat.le_of_ble_eq_true rfl) (Nat.le_of_ble_eq_true rfl) (fun _ => rfl) dX11_cast_1 (fun u1 hm => ?_)
  refine j_ifeq C 20 dX11_cast_4 (by decide) hm (fun hm => ?_) (fun hm => ?_)
  · refine j_sub (L' := [(0, .ref (G.1 + 0))]) [0] rfl ?_
    exact w_Race_cast_20 C O hm
  · refine j_iload_n C 2 dX11_cast_7 rfl rfl ?_
    refine j_sipush C (-9999 : Int32) dX11_cast_8 (by decide) ?_
    refine j_sipush C 9999 dX11_cast_11 (by decide) ?_
    refine j_cS C l_X11_102 [.int v2, .int ((-9999 : Int32)), .int ((9999 : Int32))] [] (fun u2 => some (.int u2)) (fun _ => h) (fun u2 => [.int u2]) hm (fun l u hu => c_Race_isWithin hu) rfl (Nat.le_of_ble_eq_true rfl) rfl (Nat.le_of_ble_eq_true rfl) (Nat.le_of_ble_eq_true rfl) (fun _ => rfl) dX11_cast_14 (fun u2 hm => ?_)
    refine j_ifne C 26 dX11_cast_17 (by decide) hm (fun hm => ?_) (fun hm => ?_)
    · refine j_sub (L' := [(0, .ref (G.1 + 0))]) [0] rfl ?_
      exact w_Race_cast_20 C O hm
    · refine j_aload_n C 0 dX11_cast_26 rfl rfl ?_
      refine j_gS C f_X11_10 n_0 q_0_0 dX11_cast_27 ?_
      refine j_gI C f_X11_317 n_1 dX11_cast_30 ?_
      refine j_bipush C 12 dX11_cast_33 (by decide) ?_
      refine j_if_icmplt C 45 dX11_cast_35 (by decide) hm (fun hm => ?_) (fun hm => ?_)
      · refine j_aload_n C 0 dX11_cast_45 rfl rfl ?_
        refine j_gS C f_X11_10 n_0 q_0_0 dX11_cast_46 ?_
        refine j_gS C f_X11_320 n_1 q_1_11 dX11_cast_49 ?_
        refine j_aload_n C 0 dX11_cast_52 rfl rfl ?_
        refine j_gS C f_X11_10 n_0 q_0_0 dX11_cast_53 ?_
        refine j_gI C f_X11_317 n_1 dX11_cast_56 ?_
        refine j_iload_n C 1 dX11_cast_59 rfl rfl ?_
        refine j_iast C n_13 hm dX11_cast_60 (fun hm => ?_)
        refine j_aload_n C 0 dX11_cast_61 rfl rfl ?_
        refine j_nmH hm (fun h3 hm => ?_)
        refine j_gS C f_X11_10 n_0 q_0_0 dX11_cast_62 ?_
        refine j_gS C f_X11_323 n_1 q_1_12 dX11_cast_65 ?_
        refine j_aload_n C 0 dX11_cast_68 rfl rfl ?_
        refine j_gS C f_X11_10 n_0 q_0_0 dX11_cast_69 ?_
        refine j_gI C f_X11_317 n_1 dX11_cast_72 ?_
        refine j_iload_n C 2 dX11_cast_75 rfl rfl ?_
        refine j_iast C n_14 hm dX11_cast_76 (fun hm => ?_)
        refine j_aload_n C 0 dX11_cast_77 rfl rfl ?_
        refine j_nmH hm (fun h4 hm => ?_)
        refine j_gS C f_X11_10 n_0 q_0_0 dX11_cast_78 ?_
        refine j_dup C dX11_cast_81 rfl ?_
        refine j_gI C f_X11_317 n_1 dX11_cast_82 ?_
        refine j_iconst C 1 dX11_cast_85 (by decide) ?_
        refine j_iadd C dX11_cast_86 ?_
        refine j_pI C f_X11_317 n_1 dX11_cast_87 ?_
        refine j_aload_n C 0 dX11_cast_90 rfl rfl ?_
        refine j_nmH hm (fun h5 hm => ?_)
        refine j_gS C f_X11_68 n_0 q_0_8 dX11_cast_91 ?_
        refine j_iconst C (-1 : Int32) dX11_cast_94 (by decide) ?_
        refine j_pI C f_X11_326 n_74 dX11_cast_95 ?_
        refine j_aload_n C 0 dX11_cast_98 rfl rfl ?_
        refine j_aload_n C 0 dX11_cast_99 rfl rfl ?_
        refine j_nmH hm (fun h6 hm => ?_)
        refine j_gS C f_X11_10 n_0 q_0_0 dX11_cast_100 ?_
        refine j_gI C f_X11_317 n_1 dX11_cast_103 ?_
        refine j_iconst C 1 dX11_cast_106 (by decide) ?_
        refine j_isub C dX11_cast_107 ?_
        refine j_cV C l_X11_122 [.int ((hI h6 1 18) - ((1 : Int32)))] [] (fun u7 => some (.int u7.1)) (fun u7 => u7.2) (fun u7 => [.int u7.1]) n_0 hm (fun l u hu => c_Race_grant hu) rfl (Nat.le_of_ble_eq_true rfl) rfl (Nat.le_of_ble_eq_true rfl) (Nat.le_of_ble_eq_true rfl) (fun _ => rfl) dX11_cast_108 (fun u7 hm => ?_)
        obtain rfl := Option.some.inj hm
        exact j_iret C O dX11_cast_111
      · refine j_aload_n C 0 dX11_cast_38 rfl rfl ?_
        refine j_bipush C (-5 : Int32) dX11_cast_39 (by decide) ?_
        refine j_cV C l_X11_112 [.int ((-5 : Int32))] [] (fun u8 => some (.int u8.1)) (fun u8 => u8.2) (fun u8 => [.int u8.1]) n_0 hm (fun l u hu => c_Race_refuse hu) rfl (Nat.le_of_ble_eq_true rfl) rfl (Nat.le_of_ble_eq_true rfl) (Nat.le_of_ble_eq_true rfl) (fun _ => rfl) dX11_cast_41 (fun u8 hm => ?_)
        obtain rfl := Option.some.inj hm
        exact j_iret C O dX11_cast_44
theorem c_Race_cast {G : jG} {l : Launch} {v1 : Int32} {v2 : Int32} {h : Hp} {out : (Int32 × Hp)} (hm : s_Race_cast v1 v2 h = some out) : mt G l yX11_cast cX11_cast 3 (some .int) 3 112 [.ref (G.1 + 0), .int v1, .int v2] h (some (.int out.1)) out.2 :=
  mt_of (by decide) (Nat.le_of_ble_eq_true rfl) _ rfl (fun X I C O => w_Race_cast C O hm)
noncomputable def s_Race_cell_23 (h : Hp) : Option (Int32 × Hp) :=
  some ((-100000 : Int32), h)
noncomputable def s_Race_cell_79 (s0 : Int32) (h : Hp) : Option (Int32 × Hp) :=
  some (s0, h)
noncomputable def s_Race_cell (v1 : Int32) (v2 : Int32) (v3 : Int32) (h : Hp) : Option (Int32 × Hp) :=
  (s_Race_isCell v1 h).bind fun u1 => if u1 = 0 then
    s_Race_cell_23 h
  else
    (s_Race_isMinute v2 h).bind fun u2 => if u2 = 0 then
      s_Race_cell_23 h
    else
      (s_Race_isWithin v3 ((0 : Int32)) ((2 : Int32)) h).bind fun u3 => if u3 = 0 then
        s_Race_cell_23 h
      else
        ib v1 50 <| if v3 = ((2 : Int32)) then
          some (hI h 5 (ix v1), h)
        else
          (s_Water_freshenToday h).bind fun u4 => if v3 = 0 then
            (s_Water_flowOf (hI h 5 (ix v1)) v2 u4).bind fun u6 => s_Race_cell_79 u6 u4
          else
            (s_Water_whiteOf (hI h 5 (ix v1)) v2 u4).bind fun u5 => s_Race_cell_79 u5.1 u5.2
def O_Race_cell (G : jG) (X : jX) (out : (Int32 × Hp)) : Prop := jO G X (some .int) (some (.int out.1)) out.2
theorem w_Race_cell_23 {G : jG} {X : jX} (C : jC G X cX11_cell 5 RX11 7 230) {h : Hp} {out : (Int32 × Hp)} (O : (O_Race_cell G X) out) (hm : s_Race_cell_23 h = some out) : J G X 23 [] [] h := by
  unfold s_Race_cell_23 at hm
  refine j_ldc C wd_874 dX11_cell_23 ?_
  obtain rfl := Option.some.inj hm
  exact j_iret C O dX11_cell_25
theorem w_Race_cell_79 {G : jG} {X : jX} (C : jC G X cX11_cell 5 RX11 7 230) {s0 : Int32} {h : Hp} {out : (Int32 × Hp)} (O : (O_Race_cell G X) out) (hm : s_Race_cell_79 s0 h = some out) : J G X 79 [] [.int s0] h := by
  unfold s_Race_cell_79 at hm
  obtain rfl := Option.some.inj hm
  exact j_iret C O dX11_cell_79
theorem w_Race_cell {G : jG} {X : jX} (C : jC G X cX11_cell 5 RX11 7 230) {v1 : Int32} {v2 : Int32} {v3 : Int32} {h : Hp} {out : (Int32 × Hp)} (O : (O_Race_cell G X) out) (hm : s_Race_cell v1 v2 v3 h = some out) : J G X 0 [(0, .ref (G.1 + 0)), (1, .int v1), (2, .int v2), (3, .int v3)] [] h := by
  unfold s_Race_cell at hm
  refine j_iload_n C 1 dX11_cell_0 rfl rfl ?_
  refine j_cS C l_X11_200 [.int v1] [] (fun u1 => some (.int u1)) (fun _ => h) (fun u1 => [.int u1]) hm (fun l u hu => c_Race_isCell hu) rfl (Nat.le_of_ble_eq_true rfl) rfl (Nat.le_of_ble_eq_true rfl) (Nat.le_of_ble_eq_true rfl) (fun _ => rfl) dX11_cell_1 (fun u1 hm => ?_)
  refine j_ifeq C 23 dX11_cell_4 (by decide) hm (fun hm => ?_) (fun hm => ?_)
  · refine j_sub (L' := []) [] rfl ?_
    exact w_Race_cell_23 C O hm
  · refine j_iload_n C 2 dX11_cell_7 rfl rfl ?_
    refine j_cS C l_X11_184 [.int v2] [] (fun u2 => some (.int u2)) (fun _ => h) (fun u2 => [.int u2]) hm (fun l u hu => c_Race_isMinute hu) rfl (Nat.le_of_ble_eq_true rfl) rfl (Nat.le_of_ble_eq_true rfl) (Nat.le_of_ble_eq_true rfl) (fun _ => rfl) dX11_cell_8 (fun u2 hm => ?_)
    refine j_ifeq C 23 dX11_cell_11 (by decide) hm (fun hm => ?_) (fun hm => ?_)
    · refine j_sub (L' := []) [] rfl ?_
      exact w_Race_cell_23 C O hm
    · refine j_iload_n C 3 dX11_cell_14 rfl rfl ?_
      refine j_iconst C 0 dX11_cell_15 (by decide) ?_
      refine j_iconst C 2 dX11_cell_16 (by decide) ?_
      refine j_cS C l_X11_102 [.int v3, .int ((0 : Int32)), .int ((2 : Int32))] [] (fun u3 => some (.int u3)) (fun _ => h) (fun u3 => [.int u3]) hm (fun l u hu => c_Race_isWithin hu) rfl (Nat.le_of_ble_eq_true rfl) rfl (Nat.le_of_ble_eq_true rfl) (Nat.le_of_ble_eq_true rfl) (fun _ => rfl) dX11_cell_17 (fun u3 hm => ?_)
      refine j_ifne C 26 dX11_cell_20 (by decide) hm (fun hm => ?_) (fun hm => ?_)
      · refine j_sub (L' := []) [] rfl ?_
        exact w_Race_cell_23 C O hm
      · refine j_aload_n C 0 dX11_cell_26 rfl rfl ?_
        refine j_gS C f_X11_10 n_0 q_0_0 dX11_cell_27 ?_
        refine j_gS C f_X11_164 n_1 q_1_3 dX11_cell_30 ?_
        refine j_iload_n C 1 dX11_cell_33 rfl rfl ?_
        refine j_iald C n_5 hm dX11_cell_34 (fun hm => ?_)
        refine j_istore C [(4, .int (hI h 5 (ix v1))), (0, .ref (G.1 + 0)), (1, .int v1), (2, .int v2), (3, .int v3)] dX11_cell_35 (by decide) rfl ?_
        refine j_iload_n C 4 dX11_cell_37 rfl rfl ?_
        refine j_iconst C 2 dX11_cell_38 (by decide) ?_
        refine j_if_icmpne C 45 dX11_cell_39 (by decide) hm (fun hm => ?_) (fun hm => ?_)
        · refine j_iload C 0 dX11_cell_42 rfl ?_
          obtain rfl := Option.some.inj hm
          exact j_iret C O dX11_cell_44
        · refine j_aload_n C 1 dX11_cell_45 rfl rfl ?_
          refine j_gS C f_X11_45 n_0 q_0_5 dX11_cell_46 ?_
          refine j_cV C l_X11_194 [] [] (fun _ => none) (fun u4 => u4) (fun u4 => []) n_50 hm (fun l u hu => c_Water_freshenToday hu) rfl (Nat.le_of_ble_eq_true rfl) rfl (Nat.le_of_ble_eq_true rfl) (Nat.le_of_ble_eq_true rfl) (fun _ => rfl) dX11_cell_49 (fun u4 hm => ?_)
          refine j_iload_n C 4 dX11_cell_52 rfl rfl ?_
          refine j_ifne C 69 dX11_cell_53 (by decide) hm (fun hm => ?_) (fun hm => ?_)
          · refine j_aload_n C 1 dX11_cell_56 rfl rfl ?_
            refine j_gS C f_X11_45 n_0 q_0_5 dX11_cell_57 ?_
            refine j_iload C 0 dX11_cell_60 rfl ?_
            refine j_iload_n C 3 dX11_cell_62 rfl rfl ?_
            refine j_cV C l_X11_203 [.int (hI h 5 (ix v1)), .int v2] [] (fun u6 => some (.int u6)) (fun _ => u4) (fun u6 => [.int u6]) n_50 hm (fun l u hu => c_Water_flowOf hu) rfl (Nat.le_of_ble_eq_true rfl) rfl (Nat.le_of_ble_eq_true rfl) (Nat.le_of_ble_eq_true rfl) (fun _ => rfl) dX11_cell_63 (fun u6 hm => ?_)
            refine j_goto C 79 dX11_cell_66 (by decide) ?_
            refine j_sub (L' := []) [] rfl ?_
            exact w_Race_cell_79 C O hm
          · refine j_aload_n C 1 dX11_cell_69 rfl rfl ?_
            refine j_gS C f_X11_45 n_0 q_0_5 dX11_cell_70 ?_
            refine j_iload C 0 dX11_cell_73 rfl ?_
            refine j_iload_n C 3 dX11_cell_75 rfl rfl ?_
            refine j_cV C l_X11_206 [.int (hI h 5 (ix v1)), .int v2] [] (fun u5 => some (.int u5.1)) (fun u5 => u5.2) (fun u5 => [.int u5.1]) n_50 hm (fun l u hu => c_Water_whiteOf hu) rfl (Nat.le_of_ble_eq_true rfl) rfl (Nat.le_of_ble_eq_true rfl) (Nat.le_of_ble_eq_true rfl) (fun _ => rfl) dX11_cell_76 (fun u5 hm => ?_)
            refine j_sub (L' := []) [] rfl ?_
            exact w_Race_cell_79 C O hm
theorem c_Race_cell {G : jG} {l : Launch} {v1 : Int32} {v2 : Int32} {v3 : Int32} {h : Hp} {out : (Int32 × Hp)} (hm : s_Race_cell v1 v2 v3 h = some out) : mt G l yX11_cell cX11_cell 5 (some .int) 7 230 [.ref (G.1 + 0), .int v1, .int v2, .int v3] h (some (.int out.1)) out.2 :=
  mt_of (by decide) (Nat.le_of_ble_eq_true rfl) _ rfl (fun X I C O => w_Race_cell C O hm)
noncomputable def s_Race_count_108 (v1 : Int32) (h : Hp) : Option Int32 :=
  ib (v1 - ((6 : Int32))) 4 <| some (hI h 83 (ix (v1 - ((6 : Int32)))))
noncomputable def s_Race_count (v1 : Int32) (h : Hp) : Option Int32 :=
  if v1 = 0 then
    some (hI h 1 15)
  else if v1 = 1 then
    some (hI h 1 17)
  else if v1 = 2 then
    some (hI h 1 13)
  else if v1 = 3 then
    some (hI h 1 16)
  else if v1 = 4 then
    some (hI h 1 18)
  else if v1 = 5 then
    some (hI h 45 1)
  else if v1 = 6 then
    s_Race_count_108 v1 h
  else if v1 = 7 then
    s_Race_count_108 v1 h
  else if v1 = 8 then
    s_Race_count_108 v1 h
  else if v1 = 9 then
    s_Race_count_108 v1 h
  else if v1 = 10 then
    some (hI h 1 14)
  else 
    some ((-1 : Int32))
def O_Race_count (G : jG) (X : jX) (h : Hp) (out : Int32) : Prop := jO G X (some .int) (some (.int out)) h
theorem w_Race_count_108 {G : jG} {X : jX} (C : jC G X cX11_count 2 RX11 1 70) {v1 : Int32} {h : Hp} {out : Int32} (O : (O_Race_count G X h) out) (hm : s_Race_count_108 v1 h = some out) : J G X 108 [(0, .ref (G.1 + 0)), (1, .int v1)] [] h := by
  unfold s_Race_count_108 at hm
  refine j_aload_n C 0 dX11_count_108 rfl rfl ?_
  refine j_gS C f_X11_88 n_0 q_0_11 dX11_count_109 ?_
  refine j_iload_n C 1 dX11_count_112 rfl rfl ?_
  refine j_bipush C 6 dX11_count_113 (by decide) ?_
  refine j_isub C dX11_count_115 ?_
  refine j_iald C n_83 hm dX11_count_116 (fun hm => ?_)
  obtain rfl := Option.some.inj hm
  exact j_iret C O dX11_count_117
theorem w_Race_count {G : jG} {X : jX} (C : jC G X cX11_count 2 RX11 1 70) {v1 : Int32} {h : Hp} {out : Int32} (O : (O_Race_count G X h) out) (hm : s_Race_count v1 h = some out) : J G X 0 [(0, .ref (G.1 + 0)), (1, .int v1)] [] h := by
  unfold s_Race_count at hm
  refine j_iload_n C 1 dX11_count_0 rfl rfl ?_
  rcases if_inv hm with ⟨c1, hm⟩ | ⟨c1, hm⟩
  · refine j_swIn C 0 60 dX11_count_1 c1 (by decide) (by decide) rfl (by decide) ?_
    refine j_aload_n C 0 dX11_count_60 rfl rfl ?_
    refine j_gS C f_X11_10 n_0 q_0_0 dX11_count_61 ?_
    refine j_gI C f_X11_229 n_1 dX11_count_64 ?_
    obtain rfl := Option.some.inj hm
    exact j_iret C O dX11_count_67
  rcases if_inv hm with ⟨c2, hm⟩ | ⟨c2, hm⟩
  · refine j_swIn C 1 68 dX11_count_1 c2 (by decide) (by decide) rfl (by decide) ?_
    refine j_aload_n C 0 dX11_count_68 rfl rfl ?_
    refine j_gS C f_X11_10 n_0 q_0_0 dX11_count_69 ?_
    refine j_gI C f_X11_273 n_1 dX11_count_72 ?_
    obtain rfl := Option.some.inj hm
    exact j_iret C O dX11_count_75
  rcases if_inv hm with ⟨c3, hm⟩ | ⟨c3, hm⟩
  · refine j_swIn C 2 76 dX11_count_1 c3 (by decide) (by decide) rfl (by decide) ?_
    refine j_aload_n C 0 dX11_count_76 rfl rfl ?_
    refine j_gS C f_X11_10 n_0 q_0_0 dX11_count_77 ?_
    refine j_gI C f_X11_167 n_1 dX11_count_80 ?_
    obtain rfl := Option.some.inj hm
    exact j_iret C O dX11_count_83
  rcases if_inv hm with ⟨c4, hm⟩ | ⟨c4, hm⟩
  · refine j_swIn C 3 84 dX11_count_1 c4 (by decide) (by decide) rfl (by decide) ?_
    refine j_aload_n C 0 dX11_count_84 rfl rfl ?_
    refine j_gS C f_X11_10 n_0 q_0_0 dX11_count_85 ?_
    refine j_gI C f_X11_261 n_1 dX11_count_88 ?_
    obtain rfl := Option.some.inj hm
    exact j_iret C O dX11_count_91
  rcases if_inv hm with ⟨c5, hm⟩ | ⟨c5, hm⟩
  · refine j_swIn C 4 92 dX11_count_1 c5 (by decide) (by decide) rfl (by decide) ?_
    refine j_aload_n C 0 dX11_count_92 rfl rfl ?_
    refine j_gS C f_X11_10 n_0 q_0_0 dX11_count_93 ?_
    refine j_gI C f_X11_317 n_1 dX11_count_96 ?_
    obtain rfl := Option.some.inj hm
    exact j_iret C O dX11_count_99
  rcases if_inv hm with ⟨c6, hm⟩ | ⟨c6, hm⟩
  · refine j_swIn C 5 100 dX11_count_1 c6 (by decide) (by decide) rfl (by decide) ?_
    refine j_aload_n C 0 dX11_count_100 rfl rfl ?_
    refine j_gS C f_X11_27 n_0 q_0_3 dX11_count_101 ?_
    refine j_gI C f_X11_154 n_45 dX11_count_104 ?_
    obtain rfl := Option.some.inj hm
    exact j_iret C O dX11_count_107
  rcases if_inv hm with ⟨c7, hm⟩ | ⟨c7, hm⟩
  · refine j_swIn C 6 108 dX11_count_1 c7 (by decide) (by decide) rfl (by decide) ?_
    refine j_sub (L' := [(0, .ref (G.1 + 0)), (1, .int v1)]) [0, 1] rfl ?_
    exact w_Race_count_108 C O hm
  rcases if_inv hm with ⟨c8, hm⟩ | ⟨c8, hm⟩
  · refine j_swIn C 7 108 dX11_count_1 c8 (by decide) (by decide) rfl (by decide) ?_
    refine j_sub (L' := [(0, .ref (G.1 + 0)), (1, .int v1)]) [0, 1] rfl ?_
    exact w_Race_count_108 C O hm
  rcases if_inv hm with ⟨c9, hm⟩ | ⟨c9, hm⟩
  · refine j_swIn C 8 108 dX11_count_1 c9 (by decide) (by decide) rfl (by decide) ?_
    refine j_sub (L' := [(0, .ref (G.1 + 0)), (1, .int v1)]) [0, 1] rfl ?_
    exact w_Race_count_108 C O hm
  rcases if_inv hm with ⟨c10, hm⟩ | ⟨c10, hm⟩
  · refine j_swIn C 9 108 dX11_count_1 c10 (by decide) (by decide) rfl (by decide) ?_
    refine j_sub (L' := [(0, .ref (G.1 + 0)), (1, .int v1)]) [0, 1] rfl ?_
    exact w_Race_count_108 C O hm
  rcases if_inv hm with ⟨c11, hm⟩ | ⟨c11, hm⟩
  · refine j_swIn C 10 118 dX11_count_1 c11 (by decide) (by decide) rfl (by decide) ?_
    refine j_aload_n C 0 dX11_count_118 rfl rfl ?_
    refine j_gS C f_X11_10 n_0 q_0_0 dX11_count_119 ?_
    refine j_gI C f_X11_181 n_1 dX11_count_122 ?_
    obtain rfl := Option.some.inj hm
    exact j_iret C O dX11_count_125
  refine j_tableOut C 126 dX11_count_1 (by have e0 := sw_ne (n := 0) c1 (by decide); have e1 := sw_ne (n := 1) c2 (by decide); have e2 := sw_ne (n := 2) c3 (by decide); have e3 := sw_ne (n := 3) c4 (by decide); have e4 := sw_ne (n := 4) c5 (by decide); have e5 := sw_ne (n := 5) c6 (by decide); have e6 := sw_ne (n := 6) c7 (by decide); have e7 := sw_ne (n := 7) c8 (by decide); have e8 := sw_ne (n := 8) c9 (by decide); have e9 := sw_ne (n := 9) c10 (by decide); have e10 := sw_ne (n := 10) c11 (by decide); omega) (by decide) ?_
  refine j_iconst C (-1 : Int32) dX11_count_126 (by decide) ?_
  obtain rfl := Option.some.inj hm
  exact j_iret C O dX11_count_127
theorem c_Race_count {G : jG} {l : Launch} {v1 : Int32} {h : Hp} {out : Int32} (hm : s_Race_count v1 h = some out) : mt G l yX11_count cX11_count 2 (some .int) 1 70 [.ref (G.1 + 0), .int v1] h (some (.int out)) h :=
  mt_of (by decide) (Nat.le_of_ble_eq_true rfl) _ rfl (fun X I C O => w_Race_count C O hm)
noncomputable def s_Water_made_13 (s0 : Nat) (h : Hp) : Option (Nat × Hp) :=
  some (s0, h)
noncomputable def s_Water_made (v0 : Option Nat) (h : Hp) : Option (Nat × Hp) :=
  nq v0 (nl ((1440 : Int32)) <| s_Water_made_13 (nid h) (al h 0 (ix ((1440 : Int32))))) fun r1 => s_Water_made_13 r1 h
def O_Water_made (G : jG) (X : jX) (out : (Nat × Hp)) : Prop := jO G X (some (.array .int)) (some (.ref (G.1 + out.1))) out.2
theorem w_Water_made_13 {G : jG} {X : jX} (C : jC G X cX9_made 1 RX9 1 70) {s0 : Nat} {h : Hp} {out : (Nat × Hp)} (O : (O_Water_made G X) out) (hm : s_Water_made_13 s0 h = some out) : J G X 13 [] [.ref (G.1 + s0)] h := by
  unfold s_Water_made_13 at hm
  obtain rfl := Option.some.inj hm
  exact j_aret C O (Or.inr ⟨_, rfl⟩) (Or.inr ⟨_, rfl⟩) dX9_made_13
theorem w_Water_made {G : jG} {X : jX} (C : jC G X cX9_made 1 RX9 1 70) {v0 : Option Nat} {h : Hp} {out : (Nat × Hp)} (O : (O_Water_made G X) out) (hm : s_Water_made v0 h = some out) : J G X 0 [(0, rv G v0)] [] h := by
  unfold s_Water_made at hm
  refine j_aloadQ_n C 0 dX9_made_0 rfl rfl ?_
  rcases nq_inv hm with ⟨c2, hm⟩ | ⟨r1, c2, hm⟩
  · subst c2
    refine j_ifnullN C 8 dX9_made_1 (by decide) ?_
    refine j_sipush C 1440 dX9_made_8 (by decide) ?_
    refine j_newaI C hm wd_255 dX9_made_11 (fun hm => ?_)
    refine j_sub (L' := []) [] rfl ?_
    exact w_Water_made_13 C O hm
  · subst c2
    refine j_ifnull C dX9_made_1 ?_
    refine j_aload_n C 0 dX9_made_4 rfl rfl ?_
    refine j_goto C 13 dX9_made_5 (by decide) ?_
    refine j_sub (L' := []) [] rfl ?_
    exact w_Water_made_13 C O hm
theorem c_Water_made {G : jG} {l : Launch} {v0 : Option Nat} {h : Hp} {out : (Nat × Hp)} (hm : s_Water_made v0 h = some out) : mt G l yX9_made cX9_made 1 (some (.array .int)) 1 70 [rv G v0] h (some (.ref (G.1 + out.1))) out.2 :=
  mt_of (by decide) (by cases v0 <;> exact Nat.le_of_ble_eq_true rfl) _ rfl (fun X I C O => w_Water_made C O hm)
noncomputable def s_Water_drawDay_4 (v2 : Int32) (v3 : Int32) (h : Hp) : Option ((Int32 × Int32 × Hp) ⊕ Hp) :=
  if ((24 : Int32)) ≤ v3 then
    (s_Water_made (hR h 50 8) h).bind fun u1 => lt (sR u1.2 50 8 (some u1.1)) fun h2 => ib ((10 : Int32)) 11 <| nn (hR h2 50 8) fun r3 => (s_Water_run r3 (hI h2 4 (ix ((10 : Int32)))) ((0 : Int32)) h2).bind fun u5 => some (.inr u5)
  else
    lt (z_rem ((v2 * ((1103 : Int32))) + ((12345 : Int32))) ((1000003 : Int32))) fun x6 => ib v3 24 <| some (.inl (x6, (v3 + (1 : Int32)), (sI h 55 (ix v3) ((z_rem x6 ((41 : Int32))) - ((20 : Int32))))))
noncomputable def s_Water_drawDay (v1 : Int32) (h : Hp) : Option Hp :=
  lp (fun q => s_Water_drawDay_4 q.1 q.2.1 q.2.2) (v1, ((0 : Int32)), h)
def O_Water_drawDay (G : jG) (X : jX) (out : Hp) : Prop := jO G X (none) none out
def P_Water_drawDay_4 (G : jG) (X : jX) (q : Int32 × Int32 × Hp) : Prop := J G X 4 [(0, .ref (G.1 + 50)), (2, .int q.1), (3, .int q.2.1)] [] q.2.2
def O_Water_drawDay_4 (G : jG) (X : jX) (t : ((Int32 × Int32 × Hp) ⊕ Hp)) : Prop := Sum.elim (P_Water_drawDay_4 G X) (O_Water_drawDay G X) t
theorem w_Water_drawDay_4 {G : jG} {X : jX} (C : jC G X cX9_drawDay 4 RX9 6 210) {v2 : Int32} {v3 : Int32} {h : Hp} {out : ((Int32 × Int32 × Hp) ⊕ Hp)} (O : (O_Water_drawDay_4 G X) out) (hm : s_Water_drawDay_4 v2 v3 h = some out) : J G X 4 [(0, .ref (G.1 + 50)), (2, .int v2), (3, .int v3)] [] h := by
  unfold s_Water_drawDay_4 at hm
  refine j_iload_n C 2 dX9_drawDay_4 rfl rfl ?_
  refine j_bipush C 24 dX9_drawDay_5 (by decide) ?_
  refine j_if_icmpge C 42 dX9_drawDay_7 (by decide) hm (fun hm => ?_) (fun hm => ?_)
  · refine j_aload_n C 0 dX9_drawDay_42 rfl rfl ?_
    refine j_aload_n C 0 dX9_drawDay_43 rfl rfl ?_
    refine j_gR C f_X9_38 n_50 q_50_8 dX9_drawDay_44 ?_
    refine j_cS C l_X9_104 [rv G (hR h 50 8)] [.ref (G.1 + 50)] (fun u1 => some (.ref (G.1 + u1.1))) (fun u1 => u1.2) (fun u1 => [.ref (G.1 + u1.1), .ref (G.1 + 50)]) hm (fun l u hu => c_Water_made hu) rfl (Nat.le_of_ble_eq_true rfl) rfl (Nat.le_of_ble_eq_true rfl) (Nat.le_of_ble_eq_true rfl) (fun _ => rfl) dX9_drawDay_47 (fun u1 hm => ?_)
    refine j_pR C (o := (some u1.1)) f_X9_38 n_50 q_50_8 dX9_drawDay_50 ?_
    refine j_aload_n C 0 dX9_drawDay_53 rfl rfl ?_
    refine j_aload_n C 0 dX9_drawDay_54 rfl rfl ?_
    refine j_nmH hm (fun h2 hm => ?_)
    refine j_gR C f_X9_38 n_50 q_50_8 dX9_drawDay_55 ?_
    refine j_aload_n C 0 dX9_drawDay_58 rfl rfl ?_
    refine j_gS C f_X9_58 n_50 q_50_0 dX9_drawDay_59 ?_
    refine j_gS C f_X9_90 n_1 q_1_2 dX9_drawDay_62 ?_
    refine j_bipush C 10 dX9_drawDay_65 (by decide) ?_
    refine j_iald C n_4 hm dX9_drawDay_67 (fun hm => ?_)
    refine j_iconst C 0 dX9_drawDay_68 (by decide) ?_
    obtain ⟨r3, c4, hm⟩ := nn_inv hm
    rw [c4]
    change J G X _ _ _ _
    refine j_cV C l_X9_100 [.ref (G.1 + r3), .int (hI h2 4 (ix ((10 : Int32)))), .int ((0 : Int32))] [] (fun _ => none) (fun u5 => u5) (fun u5 => []) n_50 hm (fun l u hu => c_Water_run hu) rfl (Nat.le_of_ble_eq_true rfl) rfl (Nat.le_of_ble_eq_true rfl) (Nat.le_of_ble_eq_true rfl) (fun _ => rfl) dX9_drawDay_69 (fun u5 hm => ?_)
    obtain rfl := Option.some.inj hm
    exact j_vret C O dX9_drawDay_72
  · refine j_iload_n C 1 dX9_drawDay_10 rfl rfl ?_
    refine j_sipush C 1103 dX9_drawDay_11 (by decide) ?_
    refine j_imul C dX9_drawDay_14 ?_
    refine j_sipush C 12345 dX9_drawDay_15 (by decide) ?_
    refine j_iadd C dX9_drawDay_18 ?_
    refine j_ldc C wd_1293 dX9_drawDay_19 ?_
    refine j_irem C dX9_drawDay_21 (by decide) ?_
    refine j_nmI hm (fun x6 hm => ?_)
    refine j_istore_n C [(2, .int x6), (0, .ref (G.1 + 50)), (3, .int v3)] dX9_drawDay_22 rfl (by decide) rfl ?_
    refine j_aload_n C 1 dX9_drawDay_23 rfl rfl ?_
    refine j_gS C f_X9_22 n_50 q_50_3 dX9_drawDay_24 ?_
    refine j_iload_n C 2 dX9_drawDay_27 rfl rfl ?_
    refine j_iload_n C 0 dX9_drawDay_28 rfl rfl ?_
    refine j_bipush C 41 dX9_drawDay_29 (by decide) ?_
    refine j_irem C dX9_drawDay_31 (by decide) ?_
    refine j_bipush C 20 dX9_drawDay_32 (by decide) ?_
    refine j_isub C dX9_drawDay_34 ?_
    refine j_iast C n_55 hm dX9_drawDay_35 (fun hm => ?_)
    refine j_iinc C 2 [(3, .int (v3 + (1 : Int32))), (2, .int x6), (0, .ref (G.1 + 50))] dX9_drawDay_36 rfl (add_lit (by decide)) (by decide) rfl ?_
    refine j_goto C 4 dX9_drawDay_39 (by decide) ?_
    obtain rfl := Option.some.inj hm
    refine j_sub (L' := [(0, .ref (G.1 + 50)), (2, .int x6), (3, .int (v3 + (1 : Int32)))]) [2, 1, 0] rfl ?_
    exact O
theorem k_Water_drawDay_4 {G : jG} {X : jX} (C : jC G X cX9_drawDay 4 RX9 6 210) {v2 : Int32} {v3 : Int32} {h : Hp} {out : Hp} (O : (O_Water_drawDay G X) out) (hm : lp (fun q => s_Water_drawDay_4 q.1 q.2.1 q.2.2) (v2, v3, h) = some out) : J G X 4 [(0, .ref (G.1 + 50)), (2, .int v2), (3, .int v3)] [] h :=
  lp_ok (P := P_Water_drawDay_4 G X) (O := (O_Water_drawDay G X)) (fun q r hm O => w_Water_drawDay_4 C O hm) hm O
theorem w_Water_drawDay {G : jG} {X : jX} (C : jC G X cX9_drawDay 4 RX9 6 210) {v1 : Int32} {h : Hp} {out : Hp} (O : (O_Water_drawDay G X) out) (hm : s_Water_drawDay v1 h = some out) : J G X 0 [(0, .ref (G.1 + 50)), (1, .int v1)] [] h := by
  unfold s_Water_drawDay at hm
  refine j_iload_n C 1 dX9_drawDay_0 rfl rfl ?_
  refine j_istore_n C [(2, .int v1), (0, .ref (G.1 + 50)), (1, .int v1)] dX9_drawDay_1 rfl (by decide) rfl ?_
  refine j_iconst C 0 dX9_drawDay_2 (by decide) ?_
  refine j_istore_n C [(3, .int ((0 : Int32))), (2, .int v1), (0, .ref (G.1 + 50)), (1, .int v1)] dX9_drawDay_3 rfl (by decide) rfl ?_
  refine j_sub (L' := [(0, .ref (G.1 + 50)), (2, .int v1), (3, .int ((0 : Int32)))]) [2, 1, 0] rfl ?_
  exact k_Water_drawDay_4 C O hm
theorem c_Water_drawDay {G : jG} {l : Launch} {v1 : Int32} {h : Hp} {out : Hp} (hm : s_Water_drawDay v1 h = some out) : mt G l yX9_drawDay cX9_drawDay 4 (none) 6 210 [.ref (G.1 + 50), .int v1] h none out :=
  mt_of (by decide) (Nat.le_of_ble_eq_true rfl) _ rfl (fun X I C O => w_Water_drawDay C O hm)
noncomputable def s_Water_isStill_21 (s0 : Int32) (h : Hp) : Option Int32 :=
  bz s0 <| some (s0)
noncomputable def s_Water_isStill (v1 : Int32) (h : Hp) : Option Int32 :=
  ib ((3 : Int32)) 11 <| if (hI h 4 (ix ((3 : Int32)))) < (z_abs v1) then
    s_Water_isStill_21 ((0 : Int32)) h
  else
    s_Water_isStill_21 ((1 : Int32)) h
def O_Water_isStill (G : jG) (X : jX) (h : Hp) (out : Int32) : Prop := jO G X (some .boolean) (some (.int out)) h
theorem w_Water_isStill_21 {G : jG} {X : jX} (C : jC G X cX9_isStill 2 RX9 1 70) {s0 : Int32} {h : Hp} {out : Int32} (O : (O_Water_isStill G X h) out) (hm : s_Water_isStill_21 s0 h = some out) : J G X 21 [] [.int s0] h := by
  unfold s_Water_isStill_21 at hm
  obtain ⟨cz, hm⟩ := bz_inv hm
  obtain rfl := Option.some.inj hm
  exact j_zret C O cz dX9_isStill_21
theorem w_Water_isStill {G : jG} {X : jX} (C : jC G X cX9_isStill 2 RX9 1 70) {v1 : Int32} {h : Hp} {out : Int32} (O : (O_Water_isStill G X h) out) (hm : s_Water_isStill v1 h = some out) : J G X 0 [(0, .ref (G.1 + 50)), (1, .int v1)] [] h := by
  unfold s_Water_isStill at hm
  refine j_iload_n C 1 dX9_isStill_0 rfl rfl ?_
  refine j_mabs C wd_941 wd_942 wd_126 wd_943 (Nat.le_of_ble_eq_true rfl) (Nat.le_of_ble_eq_true rfl) dX9_isStill_1 ?_
  refine j_aload_n C 0 dX9_isStill_4 rfl rfl ?_
  refine j_gS C f_X9_58 n_50 q_50_0 dX9_isStill_5 ?_
  refine j_gS C f_X9_90 n_1 q_1_2 dX9_isStill_8 ?_
  refine j_iconst C 3 dX9_isStill_11 (by decide) ?_
  refine j_iald C n_4 hm dX9_isStill_12 (fun hm => ?_)
  refine j_if_icmpgt C 20 dX9_isStill_13 (by decide) hm (fun hm => ?_) (fun hm => ?_)
  · refine j_iconst C 0 dX9_isStill_20 (by decide) ?_
    refine j_sub (L' := []) [] rfl ?_
    exact w_Water_isStill_21 C O hm
  · refine j_iconst C 1 dX9_isStill_16 (by decide) ?_
    refine j_goto C 21 dX9_isStill_17 (by decide) ?_
    refine j_sub (L' := []) [] rfl ?_
    exact w_Water_isStill_21 C O hm
theorem c_Water_isStill {G : jG} {l : Launch} {v1 : Int32} {h : Hp} {out : Int32} (hm : s_Water_isStill v1 h = some out) : mt G l yX9_isStill cX9_isStill 2 (some .boolean) 1 70 [.ref (G.1 + 50), .int v1] h (some (.int out)) h :=
  mt_of (by decide) (Nat.le_of_ble_eq_true rfl) _ rfl (fun X I C O => w_Water_isStill C O hm)
noncomputable def s_Water_beginsSlack_31 (s0 : Int32) (h : Hp) : Option Int32 :=
  bz s0 <| some (s0)
noncomputable def s_Water_beginsSlack_26 (h : Hp) : Option Int32 :=
  s_Water_beginsSlack_31 ((1 : Int32)) h
noncomputable def s_Water_beginsSlack_30 (h : Hp) : Option Int32 :=
  s_Water_beginsSlack_31 ((0 : Int32)) h
noncomputable def s_Water_beginsSlack (v1 : Nat) (v2 : Int32) (h : Hp) : Option Int32 :=
  ak h v1 0 <| ib v2 (ln h v1) <| (s_Water_isStill (hI h v1 (ix v2)) h).bind fun u2 => if u2 = 0 then
    s_Water_beginsSlack_30 h
  else
    if v2 = 0 then
      s_Water_beginsSlack_26 h
    else
      ak h v1 0 <| ib (v2 - ((1 : Int32))) (ln h v1) <| (s_Water_isStill (hI h v1 (ix (v2 - ((1 : Int32))))) h).bind fun u4 => if u4 = 0 then
        s_Water_beginsSlack_26 h
      else
        s_Water_beginsSlack_30 h
def O_Water_beginsSlack (G : jG) (X : jX) (h : Hp) (out : Int32) : Prop := jO G X (some .boolean) (some (.int out)) h
theorem w_Water_beginsSlack_31 {G : jG} {X : jX} (C : jC G X cX9_beginsSlack 3 RX9 2 91) {s0 : Int32} {h : Hp} {out : Int32} (O : (O_Water_beginsSlack G X h) out) (hm : s_Water_beginsSlack_31 s0 h = some out) : J G X 31 [] [.int s0] h := by
  unfold s_Water_beginsSlack_31 at hm
  obtain ⟨cz, hm⟩ := bz_inv hm
  obtain rfl := Option.some.inj hm
  exact j_zret C O cz dX9_beginsSlack_31
theorem w_Water_beginsSlack_26 {G : jG} {X : jX} (C : jC G X cX9_beginsSlack 3 RX9 2 91) {h : Hp} {out : Int32} (O : (O_Water_beginsSlack G X h) out) (hm : s_Water_beginsSlack_26 h = some out) : J G X 26 [] [] h := by
  unfold s_Water_beginsSlack_26 at hm
  refine j_iconst C 1 dX9_beginsSlack_26 (by decide) ?_
  refine j_goto C 31 dX9_beginsSlack_27 (by decide) ?_
  refine j_sub (L' := []) [] rfl ?_
  exact w_Water_beginsSlack_31 C O hm
theorem w_Water_beginsSlack_30 {G : jG} {X : jX} (C : jC G X cX9_beginsSlack 3 RX9 2 91) {h : Hp} {out : Int32} (O : (O_Water_beginsSlack G X h) out) (hm : s_Water_beginsSlack_30 h = some out) : J G X 30 [] [] h := by
  unfold s_Water_beginsSlack_30 at hm
  refine j_iconst C 0 dX9_beginsSlack_30 (by decide) ?_
  refine j_sub (L' := []) [] rfl ?_
  exact w_Water_beginsSlack_31 C O hm
theorem w_Water_beginsSlack {G : jG} {X : jX} (C : jC G X cX9_beginsSlack 3 RX9 2 91) {v1 : Nat} {v2 : Int32} {h : Hp} {out : Int32} (O : (O_Water_beginsSlack G X h) out) (hm : s_Water_beginsSlack v1 v2 h = some out) : J G X 0 [(0, .ref (G.1 + 50)), (1, .ref (G.1 + v1)), (2, .int v2)] [] h := by
  unfold s_Water_beginsSlack at hm
  refine j_aload_n C 0 dX9_beginsSlack_0 rfl rfl ?_
  refine j_aload_n C 1 dX9_beginsSlack_1 rfl rfl ?_
  refine j_iload_n C 2 dX9_beginsSlack_2 rfl rfl ?_
  obtain ⟨c1, hm⟩ := ak_inv hm
  refine j_iald C c1 hm dX9_beginsSlack_3 (fun hm => ?_)
  refine j_cV C l_X9_165 [.int (hI h v1 (ix v2))] [] (fun u2 => some (.int u2)) (fun _ => h) (fun u2 => [.int u2]) n_50 hm (fun l u hu => c_Water_isStill hu) rfl (Nat.le_of_ble_eq_true rfl) rfl (Nat.le_of_ble_eq_true rfl) (Nat.le_of_ble_eq_true rfl) (fun _ => rfl) dX9_beginsSlack_4 (fun u2 hm => ?_)
  refine j_ifeq C 30 dX9_beginsSlack_7 (by decide) hm (fun hm => ?_) (fun hm => ?_)
  · refine j_sub (L' := []) [] rfl ?_
    exact w_Water_beginsSlack_30 C O hm
  · refine j_iload_n C 2 dX9_beginsSlack_10 rfl rfl ?_
    refine j_ifeq C 26 dX9_beginsSlack_11 (by decide) hm (fun hm => ?_) (fun hm => ?_)
    · refine j_sub (L' := []) [] rfl ?_
      exact w_Water_beginsSlack_26 C O hm
    · refine j_aload_n C 0 dX9_beginsSlack_14 rfl rfl ?_
      refine j_aload_n C 1 dX9_beginsSlack_15 rfl rfl ?_
      refine j_iload_n C 2 dX9_beginsSlack_16 rfl rfl ?_
      refine j_iconst C 1 dX9_beginsSlack_17 (by decide) ?_
      refine j_isub C dX9_beginsSlack_18 ?_
      obtain ⟨c3, hm⟩ := ak_inv hm
      refine j_iald C c3 hm dX9_beginsSlack_19 (fun hm => ?_)
      refine j_cV C l_X9_165 [.int (hI h v1 (ix (v2 - ((1 : Int32)))))] [] (fun u4 => some (.int u4)) (fun _ => h) (fun u4 => [.int u4]) n_50 hm (fun l u hu => c_Water_isStill hu) rfl (Nat.le_of_ble_eq_true rfl) rfl (Nat.le_of_ble_eq_true rfl) (Nat.le_of_ble_eq_true rfl) (fun _ => rfl) dX9_beginsSlack_20 (fun u4 hm => ?_)
      refine j_ifne C 30 dX9_beginsSlack_23 (by decide) hm (fun hm => ?_) (fun hm => ?_)
      · refine j_sub (L' := []) [] rfl ?_
        exact w_Water_beginsSlack_26 C O hm
      · refine j_sub (L' := []) [] rfl ?_
        exact w_Water_beginsSlack_30 C O hm
theorem c_Water_beginsSlack {G : jG} {l : Launch} {v1 : Nat} {v2 : Int32} {h : Hp} {out : Int32} (hm : s_Water_beginsSlack v1 v2 h = some out) : mt G l yX9_beginsSlack cX9_beginsSlack 3 (some .boolean) 2 91 [.ref (G.1 + 50), .ref (G.1 + v1), .int v2] h (some (.int out)) h :=
  mt_of (by decide) (Nat.le_of_ble_eq_true rfl) _ rfl (fun X I C O => w_Water_beginsSlack C O hm)
