noncomputable def s_Mod_asks_167 (v1 : Int32) (v3 : Int64) (s0 : Int32) (h : Hp) : Option ((Int32 × Hp) ⊕ Hp) :=
  if s0 = 0 then
    some (.inl (v1, (sI h 84 19 ((hI h 84 19) + ((1 : Int32))))))
  else
    some (.inl (v1, (sI (sL (sI h 84 19 ((hI h 84 19) + ((1 : Int32)))) 84 23 v3) 84 24 ((1 : Int32)))))
noncomputable def s_Mod_asks_166 (v1 : Int32) (v3 : Int64) (h : Hp) : Option ((Int32 × Hp) ⊕ Hp) :=
  s_Mod_asks_167 v1 v3 ((0 : Int32)) h
noncomputable def s_Mod_asks_138 (v1 : Int32) (v2 : Int32) (v3 : Int64) (v5 : Int32) (s0 : Int32) (h : Hp) : Option ((Int32 × Hp) ⊕ Hp) :=
  if s0 = 0 then
    s_Mod_asks_166 v1 v3 h
  else
    if (hI h 84 21) = 0 then
      if v5 = 0 then
        if v2 = v1 then
          s_Mod_asks_167 v1 v3 ((1 : Int32)) h
        else
          s_Mod_asks_166 v1 v3 h
      else
        s_Mod_asks_166 v1 v3 h
    else
      s_Mod_asks_166 v1 v3 h
noncomputable def s_Mod_asks_133 (v1 : Int32) (v2 : Int32) (v3 : Int64) (v5 : Int32) (h : Hp) : Option ((Int32 × Hp) ⊕ Hp) :=
  s_Mod_asks_138 v1 v2 v3 v5 ((1 : Int32)) h
noncomputable def s_Mod_asks_65 (v1 : Int32) (h : Hp) : Option ((Int32 × Hp) ⊕ Hp) :=
  if (hI h 84 20) ≤ (hI h 84 19) then
    some (.inr h)
  else
    lt (sI h 84 21 ((0 : Int32))) fun h1 => (s_Mod_codeAt (hI h1 84 19) h1).bind fun u2 => (s_Mod_sumOf ((1 : Int32)) (sI h1 84 19 ((hI h1 84 19) + ((1 : Int32))))).bind fun u3 => (s_Mod_passes0 ((3 : Int32)) (sI u3.2 84 21 ((0 : Int32)))).bind fun u4 => if u4.1 = 0 then
      s_Mod_asks_133 v1 u2 u3.1 (hI u3.2 84 21) u4.2
    else
      (s_Mod_testOf ((1 : Int32)) u4.2).bind fun u5 => if u5.1 = 0 then
        s_Mod_asks_138 v1 u2 u3.1 (hI u3.2 84 21) ((0 : Int32)) u5.2
      else
        s_Mod_asks_133 v1 u2 u3.1 (hI u3.2 84 21) u5.2
noncomputable def s_Mod_asks (v1 : Int32) (h : Hp) : Option Hp :=
  lt (sI (sL h 84 23 ((0 : Int64))) 84 24 ((0 : Int32))) fun h1 => ib ((190 : Int32)) 4998 <| if (hI h1 86 (ix ((190 : Int32)))) = ((-1 : Int32)) then
    some h1
  else
    ib ((190 : Int32)) 4998 <| lt (sI h1 84 19 (((400 : Int32)) * (hI h1 86 (ix ((190 : Int32)))))) fun h2 => ib ((190 : Int32)) 4998 <| ib (((192 : Int32)) + (hI h2 86 (ix ((190 : Int32))))) 4998 <| lp (fun q => s_Mod_asks_65 q.1 q.2) (v1, (sI h2 84 20 ((hI h2 84 19) + (hI h2 86 (ix (((192 : Int32)) + (hI h2 86 (ix ((190 : Int32))))))))))
def O_Mod_asks (G : jG) (X : jX) (out : Hp) : Prop := jO G X (none) none out
def P_Mod_asks_65 (G : jG) (X : jX) (q : Int32 × Hp) : Prop := J G X 65 [(0, .ref (G.1 + 84)), (1, .int q.1)] [] q.2
def O_Mod_asks_65 (G : jG) (X : jX) (t : ((Int32 × Hp) ⊕ Hp)) : Prop := Sum.elim (P_Mod_asks_65 G X) (O_Mod_asks G X) t
theorem w_Mod_asks_167 {G : jG} {X : jX} (C : jC G X cX12_asks 7 RX12 175 4582) {v1 : Int32} {v3 : Int64} {s0 : Int32} {h : Hp} {out : ((Int32 × Hp) ⊕ Hp)} (O : (O_Mod_asks_65 G X) out) (hm : s_Mod_asks_167 v1 v3 s0 h = some out) : J G X 167 [(0, .ref (G.1 + 84)), (1, .int v1), (3, .long v3)] [.int s0] h := by
  unfold s_Mod_asks_167 at hm
  refine j_istore C [(6, .int s0), (0, .ref (G.1 + 84)), (1, .int v1), (3, .long v3)] dX12_asks_167 (by decide) rfl ?_
  refine j_aload_n C 1 dX12_asks_169 rfl rfl ?_
  refine j_dup C dX12_asks_170 rfl ?_
  refine j_gI C f_X12_218 n_84 dX12_asks_171 ?_
  refine j_iconst C 1 dX12_asks_174 (by decide) ?_
  refine j_iadd C dX12_asks_175 ?_
  refine j_pI C f_X12_218 n_84 dX12_asks_176 ?_
  refine j_iload C 0 dX12_asks_179 rfl ?_
  refine j_ifne C 187 dX12_asks_181 (by decide) hm (fun hm => ?_) (fun hm => ?_)
  · refine j_goto C 65 dX12_asks_184 (by decide) ?_
    obtain rfl := Option.some.inj hm
    refine j_sub (L' := [(0, .ref (G.1 + 84)), (1, .int v1)]) [1, 2] rfl ?_
    exact O
  · refine j_aload_n C 1 dX12_asks_187 rfl rfl ?_
    refine j_lload_n C 3 dX12_asks_188 rfl rfl ?_
    refine j_pL C f_X12_262 n_84 dX12_asks_189 ?_
    refine j_aload_n C 1 dX12_asks_192 rfl rfl ?_
    refine j_iconst C 1 dX12_asks_193 (by decide) ?_
    refine j_pZ C f_X12_266 n_84 (by decide) dX12_asks_194 ?_
    refine j_goto C 65 dX12_asks_197 (by decide) ?_
    obtain rfl := Option.some.inj hm
    refine j_sub (L' := [(0, .ref (G.1 + 84)), (1, .int v1)]) [1, 2] rfl ?_
    exact O
theorem w_Mod_asks_166 {G : jG} {X : jX} (C : jC G X cX12_asks 7 RX12 175 4582) {v1 : Int32} {v3 : Int64} {h : Hp} {out : ((Int32 × Hp) ⊕ Hp)} (O : (O_Mod_asks_65 G X) out) (hm : s_Mod_asks_166 v1 v3 h = some out) : J G X 166 [(0, .ref (G.1 + 84)), (1, .int v1), (3, .long v3)] [] h := by
  unfold s_Mod_asks_166 at hm
  refine j_iconst C 0 dX12_asks_166 (by decide) ?_
  refine j_sub (L' := [(0, .ref (G.1 + 84)), (1, .int v1), (3, .long v3)]) [0, 1, 2] rfl ?_
  exact w_Mod_asks_167 C O hm
theorem w_Mod_asks_138 {G : jG} {X : jX} (C : jC G X cX12_asks 7 RX12 175 4582) {v1 : Int32} {v2 : Int32} {v3 : Int64} {v5 : Int32} {s0 : Int32} {h : Hp} {out : ((Int32 × Hp) ⊕ Hp)} (O : (O_Mod_asks_65 G X) out) (hm : s_Mod_asks_138 v1 v2 v3 v5 s0 h = some out) : J G X 138 [(0, .ref (G.1 + 84)), (1, .int v1), (2, .int v2), (3, .long v3), (5, .int v5)] [.int s0] h := by
  unfold s_Mod_asks_138 at hm
  refine j_istore C [(6, .int s0), (0, .ref (G.1 + 84)), (1, .int v1), (2, .int v2), (3, .long v3), (5, .int v5)] dX12_asks_138 (by decide) rfl ?_
  refine j_iload C 0 dX12_asks_140 rfl ?_
  refine j_ifeq C 166 dX12_asks_142 (by decide) hm (fun hm => ?_) (fun hm => ?_)
  · refine j_sub (L' := [(0, .ref (G.1 + 84)), (1, .int v1), (3, .long v3)]) [1, 2, 4] rfl ?_
    exact w_Mod_asks_166 C O hm
  · refine j_aload_n C 1 dX12_asks_145 rfl rfl ?_
    refine j_gZ C f_X12_228 n_84 dX12_asks_146 ?_
    refine j_ifne C 166 dX12_asks_149 (by decide) hm (fun hm => ?_) (fun hm => ?_)
    · refine j_iload C 5 dX12_asks_152 rfl ?_
      refine j_ifne C 166 dX12_asks_154 (by decide) hm (fun hm => ?_) (fun hm => ?_)
      · refine j_iload_n C 3 dX12_asks_157 rfl rfl ?_
        refine j_iload_n C 2 dX12_asks_158 rfl rfl ?_
        refine j_if_icmpne C 166 dX12_asks_159 (by decide) hm (fun hm => ?_) (fun hm => ?_)
        · refine j_iconst C 1 dX12_asks_162 (by decide) ?_
          refine j_goto C 167 dX12_asks_163 (by decide) ?_
          refine j_sub (L' := [(0, .ref (G.1 + 84)), (1, .int v1), (3, .long v3)]) [1, 2, 4] rfl ?_
          exact w_Mod_asks_167 C O hm
        · refine j_sub (L' := [(0, .ref (G.1 + 84)), (1, .int v1), (3, .long v3)]) [1, 2, 4] rfl ?_
          exact w_Mod_asks_166 C O hm
      · refine j_sub (L' := [(0, .ref (G.1 + 84)), (1, .int v1), (3, .long v3)]) [1, 2, 4] rfl ?_
        exact w_Mod_asks_166 C O hm
    · refine j_sub (L' := [(0, .ref (G.1 + 84)), (1, .int v1), (3, .long v3)]) [1, 2, 4] rfl ?_
      exact w_Mod_asks_166 C O hm
theorem w_Mod_asks_133 {G : jG} {X : jX} (C : jC G X cX12_asks 7 RX12 175 4582) {v1 : Int32} {v2 : Int32} {v3 : Int64} {v5 : Int32} {h : Hp} {out : ((Int32 × Hp) ⊕ Hp)} (O : (O_Mod_asks_65 G X) out) (hm : s_Mod_asks_133 v1 v2 v3 v5 h = some out) : J G X 133 [(0, .ref (G.1 + 84)), (1, .int v1), (2, .int v2), (3, .long v3), (5, .int v5)] [] h := by
  unfold s_Mod_asks_133 at hm
  refine j_iconst C 1 dX12_asks_133 (by decide) ?_
  refine j_goto C 138 dX12_asks_134 (by decide) ?_
  refine j_sub (L' := [(0, .ref (G.1 + 84)), (1, .int v1), (2, .int v2), (3, .long v3), (5, .int v5)]) [0, 1, 2, 3, 4] rfl ?_
  exact w_Mod_asks_138 C O hm
theorem w_Mod_asks_65 {G : jG} {X : jX} (C : jC G X cX12_asks 7 RX12 175 4582) {v1 : Int32} {h : Hp} {out : ((Int32 × Hp) ⊕ Hp)} (O : (O_Mod_asks_65 G X) out) (hm : s_Mod_asks_65 v1 h = some out) : J G X 65 [(0, .ref (G.1 + 84)), (1, .int v1)] [] h := by
  unfold s_Mod_asks_65 at hm
  refine j_aload_n C 0 dX12_asks_65 rfl rfl ?_
  refine j_gI C f_X12_218 n_84 dX12_asks_66 ?_
  refine j_aload_n C 0 dX12_asks_69 rfl rfl ?_
  refine j_gI C f_X12_215 n_84 dX12_asks_70 ?_
  refine j_if_icmpge C 200 dX12_asks_73 (by decide) hm (fun hm => ?_) (fun hm => ?_)
  · obtain rfl := Option.some.inj hm
    exact j_vret C O dX12_asks_200
  · refine j_aload_n C 0 dX12_asks_76 rfl rfl ?_
    refine j_iconst C 0 dX12_asks_77 (by decide) ?_
    refine j_pZ C f_X12_228 n_84 (by decide) dX12_asks_78 ?_
    refine j_aload_n C 0 dX12_asks_81 rfl rfl ?_
    refine j_aload_n C 0 dX12_asks_82 rfl rfl ?_
    refine j_nmH hm (fun h1 hm => ?_)
    refine j_gI C f_X12_218 n_84 dX12_asks_83 ?_
    refine j_cV C l_X12_221 [.int (hI h1 84 19)] [] (fun u2 => some (.int u2)) (fun _ => h1) (fun u2 => [.int u2]) n_84 hm (fun l u hu => c_Mod_codeAt hu) rfl (Nat.le_of_ble_eq_true rfl) rfl (Nat.le_of_ble_eq_true rfl) (Nat.le_of_ble_eq_true rfl) (fun _ => rfl) dX12_asks_86 (fun u2 hm => ?_)
    refine j_istore_n C [(2, .int u2), (0, .ref (G.1 + 84)), (1, .int v1)] dX12_asks_89 rfl (by decide) rfl ?_
    refine j_aload_n C 1 dX12_asks_90 rfl rfl ?_
    refine j_dup C dX12_asks_91 rfl ?_
    refine j_gI C f_X12_218 n_84 dX12_asks_92 ?_
    refine j_iconst C 1 dX12_asks_95 (by decide) ?_
    refine j_iadd C dX12_asks_96 ?_
    refine j_pI C f_X12_218 n_84 dX12_asks_97 ?_
    refine j_aload_n C 1 dX12_asks_100 rfl rfl ?_
    refine j_iconst C 1 dX12_asks_101 (by decide) ?_
    refine j_cV C l_X12_246 [.int ((1 : Int32))] [] (fun u3 => some (.long u3.1)) (fun u3 => u3.2) (fun u3 => [.long u3.1]) n_84 hm (fun l u hu => c_Mod_sumOf hu) rfl (Nat.le_of_ble_eq_true rfl) rfl (Nat.le_of_ble_eq_true rfl) (Nat.le_of_ble_eq_true rfl) (fun _ => rfl) dX12_asks_102 (fun u3 hm => ?_)
    refine j_lstore_n C [(3, .long u3.1), (2, .int u2), (0, .ref (G.1 + 84)), (1, .int v1)] dX12_asks_105 rfl (by decide) rfl ?_
    refine j_aload_n C 2 dX12_asks_106 rfl rfl ?_
    refine j_gZ C f_X12_228 n_84 dX12_asks_107 ?_
    refine j_istore C [(5, .int (hI u3.2 84 21)), (3, .long u3.1), (2, .int u2), (0, .ref (G.1 + 84)), (1, .int v1)] dX12_asks_110 (by decide) rfl ?_
    refine j_aload_n C 3 dX12_asks_112 rfl rfl ?_
    refine j_iconst C 0 dX12_asks_113 (by decide) ?_
    refine j_pZ C f_X12_228 n_84 (by decide) dX12_asks_114 ?_
    refine j_aload_n C 3 dX12_asks_117 rfl rfl ?_
    refine j_iconst C 3 dX12_asks_118 (by decide) ?_
    refine j_cV C l_X12_243 [.int ((3 : Int32))] [] (fun u4 => some (.int u4.1)) (fun u4 => u4.2) (fun u4 => [.int u4.1]) n_84 hm (fun l u hu => c_Mod_passes0 hu) rfl (Nat.le_of_ble_eq_true rfl) rfl (Nat.le_of_ble_eq_true rfl) (Nat.le_of_ble_eq_true rfl) (fun _ => rfl) dX12_asks_119 (fun u4 hm => ?_)
    refine j_ifeq C 133 dX12_asks_122 (by decide) hm (fun hm => ?_) (fun hm => ?_)
    · refine j_sub (L' := [(0, .ref (G.1 + 84)), (1, .int v1), (2, .int u2), (3, .long u3.1), (5, .int (hI u3.2 84 21))]) [3, 4, 2, 1, 0] rfl ?_
      exact w_Mod_asks_133 C O hm
    · refine j_aload_n C 3 dX12_asks_125 rfl rfl ?_
      refine j_iconst C 1 dX12_asks_126 (by decide) ?_
      refine j_cV C l_X12_259 [.int ((1 : Int32))] [] (fun u5 => some (.int u5.1)) (fun u5 => u5.2) (fun u5 => [.int u5.1]) n_84 hm (fun l u hu => c_Mod_testOf hu) rfl (Nat.le_of_ble_eq_true rfl) rfl (Nat.le_of_ble_eq_true rfl) (Nat.le_of_ble_eq_true rfl) (fun _ => rfl) dX12_asks_127 (fun u5 hm => ?_)
      refine j_ifeq C 137 dX12_asks_130 (by decide) hm (fun hm => ?_) (fun hm => ?_)
      · refine j_iconst C 0 dX12_asks_137 (by decide) ?_
        refine j_sub (L' := [(0, .ref (G.1 + 84)), (1, .int v1), (2, .int u2), (3, .long u3.1), (5, .int (hI u3.2 84 21))]) [3, 4, 2, 1, 0] rfl ?_
        exact w_Mod_asks_138 C O hm
      · refine j_sub (L' := [(0, .ref (G.1 + 84)), (1, .int v1), (2, .int u2), (3, .long u3.1), (5, .int (hI u3.2 84 21))]) [3, 4, 2, 1, 0] rfl ?_
        exact w_Mod_asks_133 C O hm
theorem k_Mod_asks_65 {G : jG} {X : jX} (C : jC G X cX12_asks 7 RX12 175 4582) {v1 : Int32} {h : Hp} {out : Hp} (O : (O_Mod_asks G X) out) (hm : lp (fun q => s_Mod_asks_65 q.1 q.2) (v1, h) = some out) : J G X 65 [(0, .ref (G.1 + 84)), (1, .int v1)] [] h :=
  lp_ok (P := P_Mod_asks_65 G X) (O := (O_Mod_asks G X)) (fun q r hm O => w_Mod_asks_65 C O hm) hm O
theorem w_Mod_asks {G : jG} {X : jX} (C : jC G X cX12_asks 7 RX12 175 4582) {v1 : Int32} {h : Hp} {out : Hp} (O : (O_Mod_asks G X) out) (hm : s_Mod_asks v1 h = some out) : J G X 0 [(0, .ref (G.1 + 84)), (1, .int v1)] [] h := by
  unfold s_Mod_asks at hm
  refine j_aload_n C 0 dX12_asks_0 rfl rfl ?_
  refine j_lconst C 0 dX12_asks_1 (by decide) ?_
  refine j_pL C f_X12_262 n_84 dX12_asks_2 ?_
  refine j_aload_n C 0 dX12_asks_5 rfl rfl ?_
  refine j_iconst C 0 dX12_asks_6 (by decide) ?_
  refine j_pZ C f_X12_266 n_84 (by decide) dX12_asks_7 ?_
  refine j_aload_n C 0 dX12_asks_10 rfl rfl ?_
  refine j_nmH hm (fun h1 hm => ?_)
  refine j_gS C f_X12_20 n_84 q_84_3 dX12_asks_11 ?_
  refine j_sipush C 190 dX12_asks_14 (by decide) ?_
  refine j_iald C n_86 hm dX12_asks_17 (fun hm => ?_)
  refine j_iconst C (-1 : Int32) dX12_asks_18 (by decide) ?_
  refine j_if_icmpne C 23 dX12_asks_19 (by decide) hm (fun hm => ?_) (fun hm => ?_)
  · obtain rfl := Option.some.inj hm
    exact j_vret C O dX12_asks_22
  · refine j_aload_n C 0 dX12_asks_23 rfl rfl ?_
    refine j_sipush C 400 dX12_asks_24 (by decide) ?_
    refine j_aload_n C 0 dX12_asks_27 rfl rfl ?_
    refine j_gS C f_X12_20 n_84 q_84_3 dX12_asks_28 ?_
    refine j_sipush C 190 dX12_asks_31 (by decide) ?_
    refine j_iald C n_86 hm dX12_asks_34 (fun hm => ?_)
    refine j_imul C dX12_asks_35 ?_
    refine j_pI C f_X12_218 n_84 dX12_asks_36 ?_
    refine j_aload_n C 0 dX12_asks_39 rfl rfl ?_
    refine j_aload_n C 0 dX12_asks_40 rfl rfl ?_
    refine j_nmH hm (fun h2 hm => ?_)
    refine j_gI C f_X12_218 n_84 dX12_asks_41 ?_
    refine j_aload_n C 0 dX12_asks_44 rfl rfl ?_
    refine j_gS C f_X12_20 n_84 q_84_3 dX12_asks_45 ?_
    refine j_sipush C 192 dX12_asks_48 (by decide) ?_
    refine j_aload_n C 0 dX12_asks_51 rfl rfl ?_
    refine j_gS C f_X12_20 n_84 q_84_3 dX12_asks_52 ?_
    refine j_sipush C 190 dX12_asks_55 (by decide) ?_
    refine j_iald C n_86 hm dX12_asks_58 (fun hm => ?_)
    refine j_iadd C dX12_asks_59 ?_
    refine j_iald C n_86 hm dX12_asks_60 (fun hm => ?_)
    refine j_iadd C dX12_asks_61 ?_
    refine j_pI C f_X12_215 n_84 dX12_asks_62 ?_
    refine j_sub (L' := [(0, .ref (G.1 + 84)), (1, .int v1)]) [0, 1] rfl ?_
    exact k_Mod_asks_65 C O hm
theorem c_Mod_asks {G : jG} {l : Launch} {v1 : Int32} {h : Hp} {out : Hp} (hm : s_Mod_asks v1 h = some out) : mt G l yX12_asks cX12_asks 7 (none) 175 4582 [.ref (G.1 + 84), .int v1] h none out :=
  mt_of (by decide) (Nat.le_of_ble_eq_true rfl) _ rfl (fun X I C O => w_Mod_asks C O hm)
noncomputable def s_Mod_asksOf (v1 : Int32) (v2 : Int32) (v3 : Int32) (v4 : Int32) (v5 : Int32) (v6 : Int32) (v7 : Int32) (h : Hp) : Option Hp :=
  ib ((0 : Int32)) 7 <| lt (sI h 95 (ix ((0 : Int32))) v1) fun h1 => ib ((1 : Int32)) 7 <| lt (sI h1 95 (ix ((1 : Int32))) v2) fun h2 => ib ((2 : Int32)) 7 <| lt (sI h2 95 (ix ((2 : Int32))) v3) fun h3 => ib ((3 : Int32)) 7 <| lt (sI h3 95 (ix ((3 : Int32))) v4) fun h4 => ib ((4 : Int32)) 7 <| lt (sI h4 95 (ix ((4 : Int32))) v5) fun h5 => ib ((5 : Int32)) 7 <| lt (sI h5 95 (ix ((5 : Int32))) v6) fun h6 => ib ((6 : Int32)) 7 <| some (sI h6 95 (ix ((6 : Int32))) v7)
def O_Mod_asksOf (G : jG) (X : jX) (out : Hp) : Prop := jO G X (none) none out
theorem w_Mod_asksOf {G : jG} {X : jX} (C : jC G X cX12_asksOf 8 RX12 1 70) {v1 : Int32} {v2 : Int32} {v3 : Int32} {v4 : Int32} {v5 : Int32} {v6 : Int32} {v7 : Int32} {h : Hp} {out : Hp} (O : (O_Mod_asksOf G X) out) (hm : s_Mod_asksOf v1 v2 v3 v4 v5 v6 v7 h = some out) : J G X 0 [(0, .ref (G.1 + 84)), (1, .int v1), (2, .int v2), (3, .int v3), (4, .int v4), (5, .int v5), (6, .int v6), (7, .int v7)] [] h := by
  unfold s_Mod_asksOf at hm
  refine j_aload_n C 0 dX12_asksOf_0 rfl rfl ?_
  refine j_gS C f_X12_52 n_84 q_84_22 dX12_asksOf_1 ?_
  refine j_iconst C 0 dX12_asksOf_4 (by decide) ?_
  refine j_iload_n C 1 dX12_asksOf_5 rfl rfl ?_
  refine j_iast C n_95 hm dX12_asksOf_6 (fun hm => ?_)
  refine j_aload_n C 0 dX12_asksOf_7 rfl rfl ?_
  refine j_nmH hm (fun h1 hm => ?_)
  refine j_gS C f_X12_52 n_84 q_84_22 dX12_asksOf_8 ?_
  refine j_iconst C 1 dX12_asksOf_11 (by decide) ?_
  refine j_iload_n C 2 dX12_asksOf_12 rfl rfl ?_
  refine j_iast C n_95 hm dX12_asksOf_13 (fun hm => ?_)
  refine j_aload_n C 0 dX12_asksOf_14 rfl rfl ?_
  refine j_nmH hm (fun h2 hm => ?_)
  refine j_gS C f_X12_52 n_84 q_84_22 dX12_asksOf_15 ?_
  refine j_iconst C 2 dX12_asksOf_18 (by decide) ?_
  refine j_iload_n C 3 dX12_asksOf_19 rfl rfl ?_
  refine j_iast C n_95 hm dX12_asksOf_20 (fun hm => ?_)
  refine j_aload_n C 0 dX12_asksOf_21 rfl rfl ?_
  refine j_nmH hm (fun h3 hm => ?_)
  refine j_gS C f_X12_52 n_84 q_84_22 dX12_asksOf_22 ?_
  refine j_iconst C 3 dX12_asksOf_25 (by decide) ?_
  refine j_iload C 4 dX12_asksOf_26 rfl ?_
  refine j_iast C n_95 hm dX12_asksOf_28 (fun hm => ?_)
  refine j_aload_n C 0 dX12_asksOf_29 rfl rfl ?_
  refine j_nmH hm (fun h4 hm => ?_)
  refine j_gS C f_X12_52 n_84 q_84_22 dX12_asksOf_30 ?_
  refine j_iconst C 4 dX12_asksOf_33 (by decide) ?_
  refine j_iload C 5 dX12_asksOf_34 rfl ?_
  refine j_iast C n_95 hm dX12_asksOf_36 (fun hm => ?_)
  refine j_aload_n C 0 dX12_asksOf_37 rfl rfl ?_
  refine j_nmH hm (fun h5 hm => ?_)
  refine j_gS C f_X12_52 n_84 q_84_22 dX12_asksOf_38 ?_
  refine j_iconst C 5 dX12_asksOf_41 (by decide) ?_
  refine j_iload C 6 dX12_asksOf_42 rfl ?_
  refine j_iast C n_95 hm dX12_asksOf_44 (fun hm => ?_)
  refine j_aload_n C 0 dX12_asksOf_45 rfl rfl ?_
  refine j_nmH hm (fun h6 hm => ?_)
  refine j_gS C f_X12_52 n_84 q_84_22 dX12_asksOf_46 ?_
  refine j_bipush C 6 dX12_asksOf_49 (by decide) ?_
  refine j_iload C 7 dX12_asksOf_51 rfl ?_
  refine j_iast C n_95 hm dX12_asksOf_53 (fun hm => ?_)
  obtain rfl := Option.some.inj hm
  exact j_vret C O dX12_asksOf_54
theorem c_Mod_asksOf {G : jG} {l : Launch} {v1 : Int32} {v2 : Int32} {v3 : Int32} {v4 : Int32} {v5 : Int32} {v6 : Int32} {v7 : Int32} {h : Hp} {out : Hp} (hm : s_Mod_asksOf v1 v2 v3 v4 v5 v6 v7 h = some out) : mt G l yX12_asksOf cX12_asksOf 8 (none) 1 70 [.ref (G.1 + 84), .int v1, .int v2, .int v3, .int v4, .int v5, .int v6, .int v7] h none out :=
  mt_of (by decide) (Nat.le_of_ble_eq_true rfl) _ rfl (fun X I C O => w_Mod_asksOf C O hm)
noncomputable def s_Mod_good (v1 : Int32) (h : Hp) : Option (Int32 × Hp) :=
  lt (sI h 84 0 ((0 : Int32))) fun h1 => some (v1, sI h1 84 1 ((hI h1 84 1) + ((1 : Int32))))
def O_Mod_good (G : jG) (X : jX) (out : (Int32 × Hp)) : Prop := jO G X (some .int) (some (.int out.1)) out.2
theorem w_Mod_good {G : jG} {X : jX} (C : jC G X cX12_good 2 RX12 1 70) {v1 : Int32} {h : Hp} {out : (Int32 × Hp)} (O : (O_Mod_good G X) out) (hm : s_Mod_good v1 h = some out) : J G X 0 [(0, .ref (G.1 + 84)), (1, .int v1)] [] h := by
  unfold s_Mod_good at hm
  refine j_aload_n C 0 dX12_good_0 rfl rfl ?_
  refine j_iconst C 0 dX12_good_1 (by decide) ?_
  refine j_pI C f_X12_3 n_84 dX12_good_2 ?_
  refine j_aload_n C 0 dX12_good_5 rfl rfl ?_
  refine j_dup C dX12_good_6 rfl ?_
  refine j_nmH hm (fun h1 hm => ?_)
  refine j_gI C f_X12_11 n_84 dX12_good_7 ?_
  refine j_iconst C 1 dX12_good_10 (by decide) ?_
  refine j_iadd C dX12_good_11 ?_
  refine j_pI C f_X12_11 n_84 dX12_good_12 ?_
  refine j_iload_n C 1 dX12_good_15 rfl rfl ?_
  obtain rfl := Option.some.inj hm
  exact j_iret C O dX12_good_16
theorem c_Mod_good {G : jG} {l : Launch} {v1 : Int32} {h : Hp} {out : (Int32 × Hp)} (hm : s_Mod_good v1 h = some out) : mt G l yX12_good cX12_good 2 (some .int) 1 70 [.ref (G.1 + 84), .int v1] h (some (.int out.1)) out.2 :=
  mt_of (by decide) (Nat.le_of_ble_eq_true rfl) _ rfl (fun X I C O => w_Mod_good C O hm)
noncomputable def s_Mod_refuses (v1 : Int32) (h : Hp) : Option (Int32 × Hp) :=
  lt (sI h 84 0 v1) fun h1 => ib (-v1) 7 <| ib (-v1) 7 <| some (v1, sI h1 85 (ix (-v1)) ((hI h1 85 (ix (-v1))) + ((1 : Int32))))
def O_Mod_refuses (G : jG) (X : jX) (out : (Int32 × Hp)) : Prop := jO G X (some .int) (some (.int out.1)) out.2
theorem w_Mod_refuses {G : jG} {X : jX} (C : jC G X cX12_refuses 2 RX12 1 70) {v1 : Int32} {h : Hp} {out : (Int32 × Hp)} (O : (O_Mod_refuses G X) out) (hm : s_Mod_refuses v1 h = some out) : J G X 0 [(0, .ref (G.1 + 84)), (1, .int v1)] [] h := by
  unfold s_Mod_refuses at hm
  refine j_aload_n C 0 dX12_refuses_0 rfl rfl ?_
  refine j_iload_n C 1 dX12_refuses_1 rfl rfl ?_
  refine j_pI C f_X12_3 n_84 dX12_refuses_2 ?_
  refine j_aload_n C 0 dX12_refuses_5 rfl rfl ?_
  refine j_nmH hm (fun h1 hm => ?_)
  refine j_gS C f_X12_7 n_84 q_84_2 dX12_refuses_6 ?_
  refine j_iload_n C 1 dX12_refuses_9 rfl rfl ?_
  refine j_ineg C dX12_refuses_10 ?_
  refine j_dup2_11 C dX12_refuses_11 rfl rfl ?_
  refine j_iald C n_85 hm dX12_refuses_12 (fun hm => ?_)
  refine j_iconst C 1 dX12_refuses_13 (by decide) ?_
  refine j_iadd C dX12_refuses_14 ?_
  refine j_iast C n_85 hm dX12_refuses_15 (fun hm => ?_)
  refine j_iload_n C 1 dX12_refuses_16 rfl rfl ?_
  obtain rfl := Option.some.inj hm
  exact j_iret C O dX12_refuses_17
theorem c_Mod_refuses {G : jG} {l : Launch} {v1 : Int32} {h : Hp} {out : (Int32 × Hp)} (hm : s_Mod_refuses v1 h = some out) : mt G l yX12_refuses cX12_refuses 2 (some .int) 1 70 [.ref (G.1 + 84), .int v1] h (some (.int out.1)) out.2 :=
  mt_of (by decide) (Nat.le_of_ble_eq_true rfl) _ rfl (fun X I C O => w_Mod_refuses C O hm)
noncomputable def s_Mod_back_33 (v1 : Int32) (v2 : Int32) (h : Hp) : Option ((Int32 × Int32 × Hp) ⊕ (Int32 × Hp)) :=
  if ((4998 : Int32)) ≤ v2 then
    (s_Mod_good ((0 : Int32)) h).bind fun u1 => some (.inr (u1.1, u1.2))
  else
    ib ((((4998 : Int32)) * v1) + v2) 9996 <| ib v2 4998 <| some (.inl (v1, (v2 + (1 : Int32)), (sI h 86 (ix v2) (hI h 87 (ix ((((4998 : Int32)) * v1) + v2))))))
noncomputable def s_Mod_back (v1 : Int32) (h : Hp) : Option (Int32 × Hp) :=
  (s_Mod_lies v1 ((0 : Int32)) ((1 : Int32)) h).bind fun u1 => if u1 = 0 then
    (s_Mod_refuses ((-1 : Int32)) h).bind fun u3 => some (u3.1, u3.2)
  else
    ib v1 2 <| if (hI h 88 (ix v1)) = 0 then
      (s_Mod_refuses ((-2 : Int32)) h).bind fun u2 => some (u2.1, u2.2)
    else
      lp (fun q => s_Mod_back_33 q.1 q.2.1 q.2.2) (v1, ((0 : Int32)), h)
def O_Mod_back (G : jG) (X : jX) (out : (Int32 × Hp)) : Prop := jO G X (some .int) (some (.int out.1)) out.2
def P_Mod_back_33 (G : jG) (X : jX) (q : Int32 × Int32 × Hp) : Prop := J G X 33 [(0, .ref (G.1 + 84)), (1, .int q.1), (2, .int q.2.1)] [] q.2.2
def O_Mod_back_33 (G : jG) (X : jX) (t : ((Int32 × Int32 × Hp) ⊕ (Int32 × Hp))) : Prop := Sum.elim (P_Mod_back_33 G X) (O_Mod_back G X) t
theorem w_Mod_back_33 {G : jG} {X : jX} (C : jC G X cX12_back 3 RX12 2 92) {v1 : Int32} {v2 : Int32} {h : Hp} {out : ((Int32 × Int32 × Hp) ⊕ (Int32 × Hp))} (O : (O_Mod_back_33 G X) out) (hm : s_Mod_back_33 v1 v2 h = some out) : J G X 33 [(0, .ref (G.1 + 84)), (1, .int v1), (2, .int v2)] [] h := by
  unfold s_Mod_back_33 at hm
  refine j_iload_n C 2 dX12_back_33 rfl rfl ?_
  refine j_sipush C 4998 dX12_back_34 (by decide) ?_
  refine j_if_icmpge C 64 dX12_back_37 (by decide) hm (fun hm => ?_) (fun hm => ?_)
  · refine j_aload_n C 0 dX12_back_64 rfl rfl ?_
    refine j_iconst C 0 dX12_back_65 (by decide) ?_
    refine j_cV C l_X12_121 [.int ((0 : Int32))] [] (fun u1 => some (.int u1.1)) (fun u1 => u1.2) (fun u1 => [.int u1.1]) n_84 hm (fun l u hu => c_Mod_good hu) rfl (Nat.le_of_ble_eq_true rfl) rfl (Nat.le_of_ble_eq_true rfl) (Nat.le_of_ble_eq_true rfl) (fun _ => rfl) dX12_back_66 (fun u1 hm => ?_)
    obtain rfl := Option.some.inj hm
    exact j_iret C O dX12_back_69
  · refine j_aload_n C 0 dX12_back_40 rfl rfl ?_
    refine j_gS C f_X12_20 n_84 q_84_3 dX12_back_41 ?_
    refine j_iload_n C 2 dX12_back_44 rfl rfl ?_
    refine j_aload_n C 0 dX12_back_45 rfl rfl ?_
    refine j_gS C f_X12_23 n_84 q_84_4 dX12_back_46 ?_
    refine j_sipush C 4998 dX12_back_49 (by decide) ?_
    refine j_iload_n C 1 dX12_back_52 rfl rfl ?_
    refine j_imul C dX12_back_53 ?_
    refine j_iload_n C 2 dX12_back_54 rfl rfl ?_
    refine j_iadd C dX12_back_55 ?_
    refine j_iald C n_87 hm dX12_back_56 (fun hm => ?_)
    refine j_iast C n_86 hm dX12_back_57 (fun hm => ?_)
    refine j_iinc C 2 [(2, .int (v2 + (1 : Int32))), (0, .ref (G.1 + 84)), (1, .int v1)] dX12_back_58 rfl (add_lit (by decide)) (by decide) rfl ?_
    refine j_goto C 33 dX12_back_61 (by decide) ?_
    obtain rfl := Option.some.inj hm
    refine j_sub (L' := [(0, .ref (G.1 + 84)), (1, .int v1), (2, .int (v2 + (1 : Int32)))]) [1, 2, 0] rfl ?_
    exact O
theorem k_Mod_back_33 {G : jG} {X : jX} (C : jC G X cX12_back 3 RX12 2 92) {v1 : Int32} {v2 : Int32} {h : Hp} {out : (Int32 × Hp)} (O : (O_Mod_back G X) out) (hm : lp (fun q => s_Mod_back_33 q.1 q.2.1 q.2.2) (v1, v2, h) = some out) : J G X 33 [(0, .ref (G.1 + 84)), (1, .int v1), (2, .int v2)] [] h :=
  lp_ok (P := P_Mod_back_33 G X) (O := (O_Mod_back G X)) (fun q r hm O => w_Mod_back_33 C O hm) hm O
theorem w_Mod_back {G : jG} {X : jX} (C : jC G X cX12_back 3 RX12 2 92) {v1 : Int32} {h : Hp} {out : (Int32 × Hp)} (O : (O_Mod_back G X) out) (hm : s_Mod_back v1 h = some out) : J G X 0 [(0, .ref (G.1 + 84)), (1, .int v1)] [] h := by
  unfold s_Mod_back at hm
  refine j_iload_n C 1 dX12_back_0 rfl rfl ?_
  refine j_iconst C 0 dX12_back_1 (by decide) ?_
  refine j_iconst C 1 dX12_back_2 (by decide) ?_
  refine j_cS C l_X12_113 [.int v1, .int ((0 : Int32)), .int ((1 : Int32))] [] (fun u1 => some (.int u1)) (fun _ => h) (fun u1 => [.int u1]) hm (fun l u hu => c_Mod_lies hu) rfl (Nat.le_of_ble_eq_true rfl) rfl (Nat.le_of_ble_eq_true rfl) (Nat.le_of_ble_eq_true rfl) (fun _ => rfl) dX12_back_3 (fun u1 hm => ?_)
  refine j_ifne C 15 dX12_back_6 (by decide) hm (fun hm => ?_) (fun hm => ?_)
  · refine j_aload_n C 0 dX12_back_9 rfl rfl ?_
    refine j_iconst C (-1 : Int32) dX12_back_10 (by decide) ?_
    refine j_cV C l_X12_117 [.int ((-1 : Int32))] [] (fun u3 => some (.int u3.1)) (fun u3 => u3.2) (fun u3 => [.int u3.1]) n_84 hm (fun l u hu => c_Mod_refuses hu) rfl (Nat.le_of_ble_eq_true rfl) rfl (Nat.le_of_ble_eq_true rfl) (Nat.le_of_ble_eq_true rfl) (fun _ => rfl) dX12_back_11 (fun u3 hm => ?_)
    obtain rfl := Option.some.inj hm
    exact j_iret C O dX12_back_14
  · refine j_aload_n C 0 dX12_back_15 rfl rfl ?_
    refine j_gS C f_X12_26 n_84 q_84_5 dX12_back_16 ?_
    refine j_iload_n C 1 dX12_back_19 rfl rfl ?_
    refine j_zald C n_88 hm dX12_back_20 (fun hm => ?_)
    refine j_ifne C 31 dX12_back_21 (by decide) hm (fun hm => ?_) (fun hm => ?_)
    · refine j_aload_n C 0 dX12_back_24 rfl rfl ?_
      refine j_bipush C (-2 : Int32) dX12_back_25 (by decide) ?_
      refine j_cV C l_X12_117 [.int ((-2 : Int32))] [] (fun u2 => some (.int u2.1)) (fun u2 => u2.2) (fun u2 => [.int u2.1]) n_84 hm (fun l u hu => c_Mod_refuses hu) rfl (Nat.le_of_ble_eq_true rfl) rfl (Nat.le_of_ble_eq_true rfl) (Nat.le_of_ble_eq_true rfl) (fun _ => rfl) dX12_back_27 (fun u2 hm => ?_)
      obtain rfl := Option.some.inj hm
      exact j_iret C O dX12_back_30
    · refine j_iconst C 0 dX12_back_31 (by decide) ?_
      refine j_istore_n C [(2, .int ((0 : Int32))), (0, .ref (G.1 + 84)), (1, .int v1)] dX12_back_32 rfl (by decide) rfl ?_
      refine j_sub (L' := [(0, .ref (G.1 + 84)), (1, .int v1), (2, .int ((0 : Int32)))]) [1, 2, 0] rfl ?_
      exact k_Mod_back_33 C O hm
theorem c_Mod_back {G : jG} {l : Launch} {v1 : Int32} {h : Hp} {out : (Int32 × Hp)} (hm : s_Mod_back v1 h = some out) : mt G l yX12_back cX12_back 3 (some .int) 2 92 [.ref (G.1 + 84), .int v1] h (some (.int out.1)) out.2 :=
  mt_of (by decide) (Nat.le_of_ble_eq_true rfl) _ rfl (fun X I C O => w_Mod_back C O hm)
noncomputable def s_Mod_fallOf (v1 : Int32) (v2 : Int32) (h : Hp) : Option Int32 :=
  ib (v1 / ((60 : Int32))) 24 <| (s_Mod_levelOf ((0 : Int32)) v1 (hI h 96 (ix (v1 / ((60 : Int32))))) v2 h).bind fun u1 => ib (v1 / ((60 : Int32))) 24 <| (s_Mod_levelOf ((1 : Int32)) v1 (hI h 96 (ix (v1 / ((60 : Int32))))) v2 h).bind fun u2 => some (u1 - u2)
def O_Mod_fallOf (G : jG) (X : jX) (h : Hp) (out : Int32) : Prop := jO G X (some .int) (some (.int out)) h
theorem w_Mod_fallOf {G : jG} {X : jX} (C : jC G X cX12_fallOf 3 RX12 4 141) {v1 : Int32} {v2 : Int32} {h : Hp} {out : Int32} (O : (O_Mod_fallOf G X h) out) (hm : s_Mod_fallOf v1 v2 h = some out) : J G X 0 [(0, .ref (G.1 + 84)), (1, .int v1), (2, .int v2)] [] h := by
  unfold s_Mod_fallOf at hm
  refine j_aload_n C 0 dX12_fallOf_0 rfl rfl ?_
  refine j_iconst C 0 dX12_fallOf_1 (by decide) ?_
  refine j_iload_n C 1 dX12_fallOf_2 rfl rfl ?_
  refine j_aload_n C 0 dX12_fallOf_3 rfl rfl ?_
  refine j_gS C f_X12_55 n_84 q_84_25 dX12_fallOf_4 ?_
  refine j_iload_n C 1 dX12_fallOf_7 rfl rfl ?_
  refine j_bipush C 60 dX12_fallOf_8 (by decide) ?_
  refine j_idiv C dX12_fallOf_10 (by decide) ?_
  refine j_iald C n_96 hm dX12_fallOf_11 (fun hm => ?_)
  refine j_iload_n C 2 dX12_fallOf_12 rfl rfl ?_
  refine j_cV C l_X12_286 [.int ((0 : Int32)), .int v1, .int (hI h 96 (ix (v1 / ((60 : Int32))))), .int v2] [] (fun u1 => some (.int u1)) (fun _ => h) (fun u1 => [.int u1]) n_84 hm (fun l u hu => c_Mod_levelOf hu) rfl (Nat.le_of_ble_eq_true rfl) rfl (Nat.le_of_ble_eq_true rfl) (Nat.le_of_ble_eq_true rfl) (fun _ => rfl) dX12_fallOf_13 (fun u1 hm => ?_)
  refine j_aload_n C 0 dX12_fallOf_16 rfl rfl ?_
  refine j_iconst C 1 dX12_fallOf_17 (by decide) ?_
  refine j_iload_n C 1 dX12_fallOf_18 rfl rfl ?_
  refine j_aload_n C 0 dX12_fallOf_19 rfl rfl ?_
  refine j_gS C f_X12_55 n_84 q_84_25 dX12_fallOf_20 ?_
  refine j_iload_n C 1 dX12_fallOf_23 rfl rfl ?_
  refine j_bipush C 60 dX12_fallOf_24 (by decide) ?_
  refine j_idiv C dX12_fallOf_26 (by decide) ?_
  refine j_iald C n_96 hm dX12_fallOf_27 (fun hm => ?_)
  refine j_iload_n C 2 dX12_fallOf_28 rfl rfl ?_
  refine j_cV C l_X12_286 [.int ((1 : Int32)), .int v1, .int (hI h 96 (ix (v1 / ((60 : Int32))))), .int v2] [.int u1] (fun u2 => some (.int u2)) (fun _ => h) (fun u2 => [.int u2, .int u1]) n_84 hm (fun l u hu => c_Mod_levelOf hu) rfl (Nat.le_of_ble_eq_true rfl) rfl (Nat.le_of_ble_eq_true rfl) (Nat.le_of_ble_eq_true rfl) (fun _ => rfl) dX12_fallOf_29 (fun u2 hm => ?_)
  refine j_isub C dX12_fallOf_32 ?_
  obtain rfl := Option.some.inj hm
  exact j_iret C O dX12_fallOf_33
theorem c_Mod_fallOf {G : jG} {l : Launch} {v1 : Int32} {v2 : Int32} {h : Hp} {out : Int32} (hm : s_Mod_fallOf v1 v2 h = some out) : mt G l yX12_fallOf cX12_fallOf 3 (some .int) 4 141 [.ref (G.1 + 84), .int v1, .int v2] h (some (.int out)) h :=
  mt_of (by decide) (Nat.le_of_ble_eq_true rfl) _ rfl (fun X I C O => w_Mod_fallOf C O hm)
noncomputable def s_Mod_near_24 (s0 : Int32) (h : Hp) : Option Int32 :=
  some (s0)
noncomputable def s_Mod_near (v0 : Int64) (v2 : Int32) (v3 : Int32) (h : Hp) : Option Int32 :=
  if 0 ≤ (lg_cmp v0 (Int32.toInt64 v2)) then
    if (lg_cmp v0 (Int32.toInt64 v3)) ≤ 0 then
      s_Mod_near_24 (Int64.toInt32 v0) h
    else
      s_Mod_near_24 v3 h
  else
    s_Mod_near_24 v2 h
def O_Mod_near (G : jG) (X : jX) (h : Hp) (out : Int32) : Prop := jO G X (some .int) (some (.int out)) h
theorem w_Mod_near_24 {G : jG} {X : jX} (C : jC G X cX12_near 4 RX12 1 70) {s0 : Int32} {h : Hp} {out : Int32} (O : (O_Mod_near G X h) out) (hm : s_Mod_near_24 s0 h = some out) : J G X 24 [] [.int s0] h := by
  unfold s_Mod_near_24 at hm
  obtain rfl := Option.some.inj hm
  exact j_iret C O dX12_near_24
theorem w_Mod_near {G : jG} {X : jX} (C : jC G X cX12_near 4 RX12 1 70) {v0 : Int64} {v2 : Int32} {v3 : Int32} {h : Hp} {out : Int32} (O : (O_Mod_near G X h) out) (hm : s_Mod_near v0 v2 v3 h = some out) : J G X 0 [(0, .long v0), (2, .int v2), (3, .int v3)] [] h := by
  unfold s_Mod_near at hm
  refine j_lload_n C 0 dX12_near_0 rfl rfl ?_
  refine j_iload_n C 1 dX12_near_1 rfl rfl ?_
  refine j_i2l C dX12_near_2 ?_
  refine j_lcmp C dX12_near_3 ?_
  refine j_ifge C 11 dX12_near_4 (by decide) hm (fun hm => ?_) (fun hm => ?_)
  · refine j_lload_n C 0 dX12_near_11 rfl rfl ?_
    refine j_iload_n C 2 dX12_near_12 rfl rfl ?_
    refine j_i2l C dX12_near_13 ?_
    refine j_lcmp C dX12_near_14 ?_
    refine j_ifle C 22 dX12_near_15 (by decide) hm (fun hm => ?_) (fun hm => ?_)
    · refine j_lload_n C 0 dX12_near_22 rfl rfl ?_
      refine j_l2i C dX12_near_23 ?_
      refine j_sub (L' := []) [] rfl ?_
      exact w_Mod_near_24 C O hm
    · refine j_iload_n C 2 dX12_near_18 rfl rfl ?_
      refine j_goto C 24 dX12_near_19 (by decide) ?_
      refine j_sub (L' := []) [] rfl ?_
      exact w_Mod_near_24 C O hm
  · refine j_iload_n C 1 dX12_near_7 rfl rfl ?_
    refine j_goto C 24 dX12_near_8 (by decide) ?_
    refine j_sub (L' := []) [] rfl ?_
    exact w_Mod_near_24 C O hm
theorem c_Mod_near {G : jG} {l : Launch} {v0 : Int64} {v2 : Int32} {v3 : Int32} {h : Hp} {out : Int32} (hm : s_Mod_near v0 v2 v3 h = some out) : mt G l yX12_near cX12_near 4 (some .int) 1 70 [.long v0, .int v2, .int v3] h (some (.int out)) h :=
  mt_of (by decide) (Nat.le_of_ble_eq_true rfl) _ rfl (fun X I C O => w_Mod_near C O hm)
noncomputable def s_Mod_gain (v1 : Int32) (v2 : Int32) (v3 : Int32) (v4 : Int32) (h : Hp) : Option (Int32 × Hp) :=
  (s_Mod_fallOf v2 v3 h).bind fun u1 => ib (v2 / ((60 : Int32))) 24 <| (s_Mod_asksOf u1 v1 v2 (hI h 96 (ix (v2 / ((60 : Int32))))) v3 ((0 : Int32)) v4 h).bind fun u2 => (s_Mod_asks ((1 : Int32)) u2).bind fun u3 => if (hI u3 84 24) = 0 then
    (s_Mod_size v1 u3).bind fun u4 => (s_Mod_term ((1 : Int32)) u3).bind fun u5 => (s_Mod_term ((7 : Int32)) u3).bind fun u6 => lt ((((Int32.toInt64 v1) * (Int32.toInt64 u4)) * (Int32.toInt64 (u5 + (u6 * v4)))) / ((1000 : Int64))) fun x7 => (s_Mod_term ((0 : Int32)) u3).bind fun u8 => (s_Mod_term ((2 : Int32)) u3).bind fun u9 => cnL (Int32.toInt64 u9) <| some (Int64.toInt32 ((((Int32.toInt64 u1) * (Int32.toInt64 u8)) - x7) / (Int32.toInt64 u9)), u3)
  else
    (s_Mod_near (hL u3 84 23) ((-500 : Int32)) ((500 : Int32)) u3).bind fun u11 => some (u11, u3)
def O_Mod_gain (G : jG) (X : jX) (out : (Int32 × Hp)) : Prop := jO G X (some .int) (some (.int out.1)) out.2
theorem w_Mod_gain {G : jG} {X : jX} (C : jC G X cX12_gain 8 RX12 176 4608) {v1 : Int32} {v2 : Int32} {v3 : Int32} {v4 : Int32} {h : Hp} {out : (Int32 × Hp)} (O : (O_Mod_gain G X) out) (hm : s_Mod_gain v1 v2 v3 v4 h = some out) : J G X 0 [(0, .ref (G.1 + 84)), (1, .int v1), (2, .int v2), (3, .int v3), (4, .int v4)] [] h := by
  unfold s_Mod_gain at hm
  refine j_aload_n C 0 dX12_gain_0 rfl rfl ?_
  refine j_iload_n C 2 dX12_gain_1 rfl rfl ?_
  refine j_iload_n C 3 dX12_gain_2 rfl rfl ?_
  refine j_cV C l_X12_290 [.int v2, .int v3] [] (fun u1 => some (.int u1)) (fun _ => h) (fun u1 => [.int u1]) n_84 hm (fun l u hu => c_Mod_fallOf hu) rfl (Nat.le_of_ble_eq_true rfl) rfl (Nat.le_of_ble_eq_true rfl) (Nat.le_of_ble_eq_true rfl) (fun _ => rfl) dX12_gain_3 (fun u1 hm => ?_)
  refine j_istore C [(5, .int u1), (0, .ref (G.1 + 84)), (1, .int v1), (2, .int v2), (3, .int v3), (4, .int v4)] dX12_gain_6 (by decide) rfl ?_
  refine j_aload_n C 1 dX12_gain_8 rfl rfl ?_
  refine j_iload C 0 dX12_gain_9 rfl ?_
  refine j_iload_n C 2 dX12_gain_11 rfl rfl ?_
  refine j_iload_n C 3 dX12_gain_12 rfl rfl ?_
  refine j_aload_n C 1 dX12_gain_13 rfl rfl ?_
  refine j_gS C f_X12_55 n_84 q_84_25 dX12_gain_14 ?_
  refine j_iload_n C 3 dX12_gain_17 rfl rfl ?_
  refine j_bipush C 60 dX12_gain_18 (by decide) ?_
  refine j_idiv C dX12_gain_20 (by decide) ?_
  refine j_iald C n_96 hm dX12_gain_21 (fun hm => ?_)
  refine j_iload_n C 4 dX12_gain_22 rfl rfl ?_
  refine j_iconst C 0 dX12_gain_23 (by decide) ?_
  refine j_iload C 5 dX12_gain_24 rfl ?_
  refine j_cV C l_X12_293 [.int u1, .int v1, .int v2, .int (hI h 96 (ix (v2 / ((60 : Int32))))), .int v3, .int ((0 : Int32)), .int v4] [] (fun _ => none) (fun u2 => u2) (fun u2 => []) n_84 hm (fun l u hu => c_Mod_asksOf hu) rfl (Nat.le_of_ble_eq_true rfl) rfl (Nat.le_of_ble_eq_true rfl) (Nat.le_of_ble_eq_true rfl) (fun _ => rfl) dX12_gain_26 (fun u2 hm => ?_)
  refine j_aload_n C 1 dX12_gain_29 rfl rfl ?_
  refine j_iconst C 1 dX12_gain_30 (by decide) ?_
  refine j_cV C l_X12_297 [.int ((1 : Int32))] [] (fun _ => none) (fun u3 => u3) (fun u3 => []) n_84 hm (fun l u hu => c_Mod_asks hu) rfl (Nat.le_of_ble_eq_true rfl) rfl (Nat.le_of_ble_eq_true rfl) (Nat.le_of_ble_eq_true rfl) (fun _ => rfl) dX12_gain_31 (fun u3 hm => ?_)
  refine j_aload_n C 1 dX12_gain_34 rfl rfl ?_
  refine j_gZ C f_X12_266 n_84 dX12_gain_35 ?_
  refine j_ifeq C 55 dX12_gain_38 (by decide) hm (fun hm => ?_) (fun hm => ?_)
  · refine j_iload_n C 2 dX12_gain_55 rfl rfl ?_
    refine j_i2l C dX12_gain_56 ?_
    refine j_iload_n C 2 dX12_gain_57 rfl rfl ?_
    refine j_cS C l_X12_304 [.int v1] [.long (Int32.toInt64 v1)] (fun u4 => some (.int u4)) (fun _ => u3) (fun u4 => [.int u4, .long (Int32.toInt64 v1)]) hm (fun l u hu => c_Mod_size hu) rfl (Nat.le_of_ble_eq_true rfl) rfl (Nat.le_of_ble_eq_true rfl) (Nat.le_of_ble_eq_true rfl) (fun _ => rfl) dX12_gain_58 (fun u4 hm => ?_)
    refine j_i2l C dX12_gain_61 ?_
    refine j_lmul C dX12_gain_62 ?_
    refine j_aload_n C 1 dX12_gain_63 rfl rfl ?_
    refine j_iconst C 1 dX12_gain_64 (by decide) ?_
    refine j_cV C l_X12_283 [.int ((1 : Int32))] [.long ((Int32.toInt64 v1) * (Int32.toInt64 u4))] (fun u5 => some (.int u5)) (fun _ => u3) (fun u5 => [.int u5, .long ((Int32.toInt64 v1) * (Int32.toInt64 u4))]) n_84 hm (fun l u hu => c_Mod_term hu) rfl (Nat.le_of_ble_eq_true rfl) rfl (Nat.le_of_ble_eq_true rfl) (Nat.le_of_ble_eq_true rfl) (fun _ => rfl) dX12_gain_65 (fun u5 hm => ?_)
    refine j_aload_n C 1 dX12_gain_68 rfl rfl ?_
    refine j_bipush C 7 dX12_gain_69 (by decide) ?_
    refine j_cV C l_X12_283 [.int ((7 : Int32))] [.int u5, .long ((Int32.toInt64 v1) * (Int32.toInt64 u4))] (fun u6 => some (.int u6)) (fun _ => u3) (fun u6 => [.int u6, .int u5, .long ((Int32.toInt64 v1) * (Int32.toInt64 u4))]) n_84 hm (fun l u hu => c_Mod_term hu) rfl (Nat.le_of_ble_eq_true rfl) rfl (Nat.le_of_ble_eq_true rfl) (Nat.le_of_ble_eq_true rfl) (fun _ => rfl) dX12_gain_71 (fun u6 hm => ?_)
    refine j_iload C 5 dX12_gain_74 rfl ?_
    refine j_imul C dX12_gain_76 ?_
    refine j_iadd C dX12_gain_77 ?_
    refine j_i2l C dX12_gain_78 ?_
    refine j_lmul C dX12_gain_79 ?_
    refine j_ldc2 C wd_1730 dX12_gain_80 ?_
    refine j_ldiv C dX12_gain_83 (by decide) ?_
    refine j_nmL hm (fun x7 hm => ?_)
    refine j_lstore C [(6, .long x7), (5, .int u1), (0, .ref (G.1 + 84)), (1, .int v1), (2, .int v2), (3, .int v3), (4, .int v4)] dX12_gain_84 (by decide) rfl ?_
    refine j_iload C 1 dX12_gain_86 rfl ?_
    refine j_i2l C dX12_gain_88 ?_
    refine j_aload_n C 2 dX12_gain_89 rfl rfl ?_
    refine j_iconst C 0 dX12_gain_90 (by decide) ?_
    refine j_cV C l_X12_283 [.int ((0 : Int32))] [.long (Int32.toInt64 u1)] (fun u8 => some (.int u8)) (fun _ => u3) (fun u8 => [.int u8, .long (Int32.toInt64 u1)]) n_84 hm (fun l u hu => c_Mod_term hu) rfl (Nat.le_of_ble_eq_true rfl) rfl (Nat.le_of_ble_eq_true rfl) (Nat.le_of_ble_eq_true rfl) (fun _ => rfl) dX12_gain_91 (fun u8 hm => ?_)
    refine j_i2l C dX12_gain_94 ?_
    refine j_lmul C dX12_gain_95 ?_
    refine j_lload C 0 dX12_gain_96 rfl ?_
    refine j_lsub C dX12_gain_98 ?_
    refine j_aload_n C 2 dX12_gain_99 rfl rfl ?_
    refine j_iconst C 2 dX12_gain_100 (by decide) ?_
    refine j_cV C l_X12_283 [.int ((2 : Int32))] [.long (((Int32.toInt64 u1) * (Int32.toInt64 u8)) - x7)] (fun u9 => some (.int u9)) (fun _ => u3) (fun u9 => [.int u9, .long (((Int32.toInt64 u1) * (Int32.toInt64 u8)) - x7)]) n_84 hm (fun l u hu => c_Mod_term hu) rfl (Nat.le_of_ble_eq_true rfl) rfl (Nat.le_of_ble_eq_true rfl) (Nat.le_of_ble_eq_true rfl) (fun _ => rfl) dX12_gain_101 (fun u9 hm => ?_)
    refine j_i2l C dX12_gain_104 ?_
    obtain ⟨c10, hm⟩ := cnL_inv hm
    refine j_ldiv C dX12_gain_105 c10 ?_
    refine j_l2i C dX12_gain_106 ?_
    obtain rfl := Option.some.inj hm
    exact j_iret C O dX12_gain_107
  · refine j_aload_n C 1 dX12_gain_41 rfl rfl ?_
    refine j_gL C f_X12_262 n_84 dX12_gain_42 ?_
    refine j_sipush C (-500 : Int32) dX12_gain_45 (by decide) ?_
    refine j_sipush C 500 dX12_gain_48 (by decide) ?_
    refine j_cS C l_X12_300 [.long (hL u3 84 23), .int ((-500 : Int32)), .int ((500 : Int32))] [] (fun u11 => some (.int u11)) (fun _ => u3) (fun u11 => [.int u11]) hm (fun l u hu => c_Mod_near hu) rfl (Nat.le_of_ble_eq_true rfl) rfl (Nat.le_of_ble_eq_true rfl) (Nat.le_of_ble_eq_true rfl) (fun _ => rfl) dX12_gain_51 (fun u11 hm => ?_)
    obtain rfl := Option.some.inj hm
    exact j_iret C O dX12_gain_54
theorem c_Mod_gain {G : jG} {l : Launch} {v1 : Int32} {v2 : Int32} {v3 : Int32} {v4 : Int32} {h : Hp} {out : (Int32 × Hp)} (hm : s_Mod_gain v1 v2 v3 v4 h = some out) : mt G l yX12_gain cX12_gain 8 (some .int) 176 4608 [.ref (G.1 + 84), .int v1, .int v2, .int v3, .int v4] h (some (.int out.1)) out.2 :=
  mt_of (by decide) (Nat.le_of_ble_eq_true rfl) _ rfl (fun X I C O => w_Mod_gain C O hm)
noncomputable def s_Mod_flows_11 (v1 : Nat) (v2 : Int32) (v3 : Int32) (v4 : Int32) (h : Hp) : Option ((Nat × Int32 × Int32 × Int32 × Hp) ⊕ Hp) :=
  if ((1440 : Int32)) ≤ v4 then
    some (.inr h)
  else
    ak h v1 0 <| ib (v4 - ((1 : Int32))) (ln h v1) <| ak h v1 0 <| ib (v4 - ((1 : Int32))) (ln h v1) <| (s_Mod_gain (hI h v1 (ix (v4 - ((1 : Int32))))) (v4 - ((1 : Int32))) v2 v3 h).bind fun u3 => (s_Mod_near ((Int32.toInt64 (hI h v1 (ix (v4 - ((1 : Int32)))))) + (Int32.toInt64 u3.1)) ((-2000 : Int32)) ((2000 : Int32)) u3.2).bind fun u4 => ak u3.2 v1 0 <| ib v4 (ln u3.2 v1) <| some (.inl (v1, v2, v3, (v4 + (1 : Int32)), (sI u3.2 v1 (ix v4) u4)))
noncomputable def s_Mod_flows (v1 : Nat) (v2 : Int32) (v3 : Int32) (h : Hp) : Option Hp :=
  (s_Mod_term ((4 : Int32)) h).bind fun u1 => ak h v1 0 <| ib ((0 : Int32)) (ln h v1) <| lp (fun q => s_Mod_flows_11 q.1 q.2.1 q.2.2.1 q.2.2.2.1 q.2.2.2.2) (v1, v2, v3, ((1 : Int32)), (sI h v1 (ix ((0 : Int32))) u1))
def O_Mod_flows (G : jG) (X : jX) (out : Hp) : Prop := jO G X (none) none out
def P_Mod_flows_11 (G : jG) (X : jX) (q : Nat × Int32 × Int32 × Int32 × Hp) : Prop := J G X 11 [(0, .ref (G.1 + 84)), (1, .ref (G.1 + q.1)), (2, .int q.2.1), (3, .int q.2.2.1), (4, .int q.2.2.2.1)] [] q.2.2.2.2
def O_Mod_flows_11 (G : jG) (X : jX) (t : ((Nat × Int32 × Int32 × Int32 × Hp) ⊕ Hp)) : Prop := Sum.elim (P_Mod_flows_11 G X) (O_Mod_flows G X) t
theorem w_Mod_flows_11 {G : jG} {X : jX} (C : jC G X cX12_flows 5 RX12 177 4635) {v1 : Nat} {v2 : Int32} {v3 : Int32} {v4 : Int32} {h : Hp} {out : ((Nat × Int32 × Int32 × Int32 × Hp) ⊕ Hp)} (O : (O_Mod_flows_11 G X) out) (hm : s_Mod_flows_11 v1 v2 v3 v4 h = some out) : J G X 11 [(0, .ref (G.1 + 84)), (1, .ref (G.1 + v1)), (2, .int v2), (3, .int v3), (4, .int v4)] [] h := by
  unfold s_Mod_flows_11 at hm
  refine j_iload C 4 dX12_flows_11 rfl ?_
  refine j_sipush C 1440 dX12_flows_13 (by decide) ?_
  refine j_if_icmpge C 63 dX12_flows_16 (by decide) hm (fun hm => ?_) (fun hm => ?_)
  · obtain rfl := Option.some.inj hm
    exact j_vret C O dX12_flows_63
  · refine j_aload_n C 1 dX12_flows_19 rfl rfl ?_
    refine j_iload C 4 dX12_flows_20 rfl ?_
    refine j_aload_n C 1 dX12_flows_22 rfl rfl ?_
    refine j_iload C 4 dX12_flows_23 rfl ?_
    refine j_iconst C 1 dX12_flows_25 (by decide) ?_
    refine j_isub C dX12_flows_26 ?_
    obtain ⟨c1, hm⟩ := ak_inv hm
    refine j_iald C c1 hm dX12_flows_27 (fun hm => ?_)
    refine j_i2l C dX12_flows_28 ?_
    refine j_aload_n C 0 dX12_flows_29 rfl rfl ?_
    refine j_aload_n C 1 dX12_flows_30 rfl rfl ?_
    refine j_iload C 4 dX12_flows_31 rfl ?_
    refine j_iconst C 1 dX12_flows_33 (by decide) ?_
    refine j_isub C dX12_flows_34 ?_
    obtain ⟨c2, hm⟩ := ak_inv hm
    refine j_iald C c2 hm dX12_flows_35 (fun hm => ?_)
    refine j_iload C 4 dX12_flows_36 rfl ?_
    refine j_iconst C 1 dX12_flows_38 (by decide) ?_
    refine j_isub C dX12_flows_39 ?_
    refine j_iload_n C 2 dX12_flows_40 rfl rfl ?_
    refine j_iload_n C 3 dX12_flows_41 rfl rfl ?_
    refine j_cV C l_X12_309 [.int (hI h v1 (ix (v4 - ((1 : Int32))))), .int (v4 - ((1 : Int32))), .int v2, .int v3] [.long (Int32.toInt64 (hI h v1 (ix (v4 - ((1 : Int32)))))), .int v4, .ref (G.1 + v1)] (fun u3 => some (.int u3.1)) (fun u3 => u3.2) (fun u3 => [.int u3.1, .long (Int32.toInt64 (hI h v1 (ix (v4 - ((1 : Int32)))))), .int v4, .ref (G.1 + v1)]) n_84 hm (fun l u hu => c_Mod_gain hu) rfl (Nat.le_of_ble_eq_true rfl) rfl (Nat.le_of_ble_eq_true rfl) (Nat.le_of_ble_eq_true rfl) (fun _ => rfl) dX12_flows_42 (fun u3 hm => ?_)
    refine j_i2l C dX12_flows_45 ?_
    refine j_ladd C dX12_flows_46 ?_
    refine j_sipush C (-2000 : Int32) dX12_flows_47 (by decide) ?_
    refine j_sipush C 2000 dX12_flows_50 (by decide) ?_
    refine j_cS C l_X12_300 [.long ((Int32.toInt64 (hI h v1 (ix (v4 - ((1 : Int32)))))) + (Int32.toInt64 u3.1)), .int ((-2000 : Int32)), .int ((2000 : Int32))] [.int v4, .ref (G.1 + v1)] (fun u4 => some (.int u4)) (fun _ => u3.2) (fun u4 => [.int u4, .int v4, .ref (G.1 + v1)]) hm (fun l u hu => c_Mod_near hu) rfl (Nat.le_of_ble_eq_true rfl) rfl (Nat.le_of_ble_eq_true rfl) (Nat.le_of_ble_eq_true rfl) (fun _ => rfl) dX12_flows_53 (fun u4 hm => ?_)
    obtain ⟨c5, hm⟩ := ak_inv hm
    refine j_iast C c5 hm dX12_flows_56 (fun hm => ?_)
    refine j_iinc C 4 [(4, .int (v4 + (1 : Int32))), (0, .ref (G.1 + 84)), (1, .ref (G.1 + v1)), (2, .int v2), (3, .int v3)] dX12_flows_57 rfl (add_lit (by decide)) (by decide) rfl ?_
    refine j_goto C 11 dX12_flows_60 (by decide) ?_
    obtain rfl := Option.some.inj hm
    refine j_sub (L' := [(0, .ref (G.1 + 84)), (1, .ref (G.1 + v1)), (2, .int v2), (3, .int v3), (4, .int (v4 + (1 : Int32)))]) [1, 2, 3, 4, 0] rfl ?_
    exact O
theorem k_Mod_flows_11 {G : jG} {X : jX} (C : jC G X cX12_flows 5 RX12 177 4635) {v1 : Nat} {v2 : Int32} {v3 : Int32} {v4 : Int32} {h : Hp} {out : Hp} (O : (O_Mod_flows G X) out) (hm : lp (fun q => s_Mod_flows_11 q.1 q.2.1 q.2.2.1 q.2.2.2.1 q.2.2.2.2) (v1, v2, v3, v4, h) = some out) : J G X 11 [(0, .ref (G.1 + 84)), (1, .ref (G.1 + v1)), (2, .int v2), (3, .int v3), (4, .int v4)] [] h :=
  lp_ok (P := P_Mod_flows_11 G X) (O := (O_Mod_flows G X)) (fun q r hm O => w_Mod_flows_11 C O hm) hm O
theorem w_Mod_flows {G : jG} {X : jX} (C : jC G X cX12_flows 5 RX12 177 4635) {v1 : Nat} {v2 : Int32} {v3 : Int32} {h : Hp} {out : Hp} (O : (O_Mod_flows G X) out) (hm : s_Mod_flows v1 v2 v3 h = some out) : J G X 0 [(0, .ref (G.1 + 84)), (1, .ref (G.1 + v1)), (2, .int v2), (3, .int v3)] [] h := by
  unfold s_Mod_flows at hm
  refine j_aload_n C 1 dX12_flows_0 rfl rfl ?_
  refine j_iconst C 0 dX12_flows_1 (by decide) ?_
  refine j_aload_n C 0 dX12_flows_2 rfl rfl ?_
  refine j_iconst C 4 dX12_flows_3 (by decide) ?_
  refine j_cV C l_X12_283 [.int ((4 : Int32))] [.int ((0 : Int32)), .ref (G.1 + v1)] (fun u1 => some (.int u1)) (fun _ => h) (fun u1 => [.int u1, .int ((0 : Int32)), .ref (G.1 + v1)]) n_84 hm (fun l u hu => c_Mod_term hu) rfl (Nat.le_of_ble_eq_true rfl) rfl (Nat.le_of_ble_eq_true rfl) (Nat.le_of_ble_eq_true rfl) (fun _ => rfl) dX12_flows_4 (fun u1 hm => ?_)
  obtain ⟨c2, hm⟩ := ak_inv hm
  refine j_iast C c2 hm dX12_flows_7 (fun hm => ?_)
  refine j_iconst C 1 dX12_flows_8 (by decide) ?_
  refine j_istore C [(4, .int ((1 : Int32))), (0, .ref (G.1 + 84)), (1, .ref (G.1 + v1)), (2, .int v2), (3, .int v3)] dX12_flows_9 (by decide) rfl ?_
  refine j_sub (L' := [(0, .ref (G.1 + 84)), (1, .ref (G.1 + v1)), (2, .int v2), (3, .int v3), (4, .int ((1 : Int32)))]) [1, 2, 3, 4, 0] rfl ?_
  exact k_Mod_flows_11 C O hm
theorem c_Mod_flows {G : jG} {l : Launch} {v1 : Nat} {v2 : Int32} {v3 : Int32} {h : Hp} {out : Hp} (hm : s_Mod_flows v1 v2 v3 h = some out) : mt G l yX12_flows cX12_flows 5 (none) 177 4635 [.ref (G.1 + 84), .ref (G.1 + v1), .int v2, .int v3] h none out :=
  mt_of (by decide) (Nat.le_of_ble_eq_true rfl) _ rfl (fun X I C O => w_Mod_flows C O hm)
noncomputable def s_Mod_fallOf0 (v1 : Int32) (h : Hp) : Option Int32 :=
  (s_Mod_level ((0 : Int32)) v1 h).bind fun u1 => (s_Mod_level ((1 : Int32)) v1 h).bind fun u2 => some (u1 - u2)
def O_Mod_fallOf0 (G : jG) (X : jX) (h : Hp) (out : Int32) : Prop := jO G X (some .int) (some (.int out)) h
theorem w_Mod_fallOf0 {G : jG} {X : jX} (C : jC G X cX12_fallOf0 2 RX12 5 163) {v1 : Int32} {h : Hp} {out : Int32} (O : (O_Mod_fallOf0 G X h) out) (hm : s_Mod_fallOf0 v1 h = some out) : J G X 0 [(0, .ref (G.1 + 84)), (1, .int v1)] [] h := by
  unfold s_Mod_fallOf0 at hm
  refine j_aload_n C 0 dX12_fallOf0_0 rfl rfl ?_
  refine j_iconst C 0 dX12_fallOf0_1 (by decide) ?_
  refine j_iload_n C 1 dX12_fallOf0_2 rfl rfl ?_
  refine j_cV C l_X12_331 [.int ((0 : Int32)), .int v1] [] (fun u1 => some (.int u1)) (fun _ => h) (fun u1 => [.int u1]) n_84 hm (fun l u hu => c_Mod_level hu) rfl (Nat.le_of_ble_eq_true rfl) rfl (Nat.le_of_ble_eq_true rfl) (Nat.le_of_ble_eq_true rfl) (fun _ => rfl) dX12_fallOf0_3 (fun u1 hm => ?_)
  refine j_aload_n C 0 dX12_fallOf0_6 rfl rfl ?_
  refine j_iconst C 1 dX12_fallOf0_7 (by decide) ?_
  refine j_iload_n C 1 dX12_fallOf0_8 rfl rfl ?_
  refine j_cV C l_X12_331 [.int ((1 : Int32)), .int v1] [.int u1] (fun u2 => some (.int u2)) (fun _ => h) (fun u2 => [.int u2, .int u1]) n_84 hm (fun l u hu => c_Mod_level hu) rfl (Nat.le_of_ble_eq_true rfl) rfl (Nat.le_of_ble_eq_true rfl) (Nat.le_of_ble_eq_true rfl) (fun _ => rfl) dX12_fallOf0_9 (fun u2 hm => ?_)
  refine j_isub C dX12_fallOf0_12 ?_
  obtain rfl := Option.some.inj hm
  exact j_iret C O dX12_fallOf0_13
theorem c_Mod_fallOf0 {G : jG} {l : Launch} {v1 : Int32} {h : Hp} {out : Int32} (hm : s_Mod_fallOf0 v1 h = some out) : mt G l yX12_fallOf0 cX12_fallOf0 2 (some .int) 5 163 [.ref (G.1 + 84), .int v1] h (some (.int out)) h :=
  mt_of (by decide) (Nat.le_of_ble_eq_true rfl) _ rfl (fun X I C O => w_Mod_fallOf0 C O hm)
noncomputable def s_Mod_flowAt_91 (v3 : Int32) (h : Hp) : Option Int32 :=
  some (v3)
noncomputable def s_Mod_flowAt_76 (s0 : Int32) (h : Hp) : Option Int32 :=
  ib s0 1440 <| some ((-(hI h 97 (ix s0))) / ((2 : Int32)))
noncomputable def s_Mod_flowAt (v1 : Int32) (v2 : Int32) (h : Hp) : Option Int32 :=
  ib v2 1440 <| if v1 = 0 then
    some ((0 : Int32))
  else if v1 = 1 then
    s_Mod_flowAt_91 (hI h 97 (ix v2)) h
  else if v1 = 2 then
    (s_Mod_term ((5 : Int32)) h).bind fun u1 => if ((1440 : Int32)) ≤ (v2 + u1) then
      s_Mod_flowAt_76 ((1439 : Int32)) h
    else
      (s_Mod_term ((5 : Int32)) h).bind fun u2 => s_Mod_flowAt_76 (v2 + u2) h
  else if v1 = 3 then
    some ((hI h 97 (ix v2)) / ((4 : Int32)))
  else if v1 = 4 then
    some (((hI h 97 (ix v2)) * ((5 : Int32))) / ((4 : Int32)))
  else 
    s_Mod_flowAt_91 (hI h 97 (ix v2)) h
def O_Mod_flowAt (G : jG) (X : jX) (h : Hp) (out : Int32) : Prop := jO G X (some .int) (some (.int out)) h
theorem w_Mod_flowAt_91 {G : jG} {X : jX} (C : jC G X cX12_flowAt 4 RX12 2 91) {v3 : Int32} {h : Hp} {out : Int32} (O : (O_Mod_flowAt G X h) out) (hm : s_Mod_flowAt_91 v3 h = some out) : J G X 91 [(3, .int v3)] [] h := by
  unfold s_Mod_flowAt_91 at hm
  refine j_iload_n C 0 dX12_flowAt_91 rfl rfl ?_
  obtain rfl := Option.some.inj hm
  exact j_iret C O dX12_flowAt_92
theorem w_Mod_flowAt_76 {G : jG} {X : jX} (C : jC G X cX12_flowAt 4 RX12 2 91) {s0 : Int32} {h : Hp} {out : Int32} (O : (O_Mod_flowAt G X h) out) (hm : s_Mod_flowAt_76 s0 h = some out) : J G X 76 [] [.int s0, .ref (G.1 + 97)] h := by
  unfold s_Mod_flowAt_76 at hm
  refine j_iald C n_97 hm dX12_flowAt_76 (fun hm => ?_)
  refine j_ineg C dX12_flowAt_77 ?_
  refine j_iconst C 2 dX12_flowAt_78 (by decide) ?_
  refine j_idiv C dX12_flowAt_79 (by decide) ?_
  obtain rfl := Option.some.inj hm
  exact j_iret C O dX12_flowAt_80
theorem w_Mod_flowAt {G : jG} {X : jX} (C : jC G X cX12_flowAt 4 RX12 2 91) {v1 : Int32} {v2 : Int32} {h : Hp} {out : Int32} (O : (O_Mod_flowAt G X h) out) (hm : s_Mod_flowAt v1 v2 h = some out) : J G X 0 [(0, .ref (G.1 + 84)), (1, .int v1), (2, .int v2)] [] h := by
  unfold s_Mod_flowAt at hm
  refine j_aload_n C 0 dX12_flowAt_0 rfl rfl ?_
  refine j_gS C f_X12_58 n_84 q_84_26 dX12_flowAt_1 ?_
  refine j_iload_n C 2 dX12_flowAt_4 rfl rfl ?_
  refine j_iald C n_97 hm dX12_flowAt_5 (fun hm => ?_)
  refine j_istore_n C [(3, .int (hI h 97 (ix v2))), (0, .ref (G.1 + 84)), (1, .int v1), (2, .int v2)] dX12_flowAt_6 rfl (by decide) rfl ?_
  refine j_iload_n C 2 dX12_flowAt_7 rfl rfl ?_
  rcases if_inv hm with ⟨c3, hm⟩ | ⟨c3, hm⟩
  · refine j_swIn C 0 44 dX12_flowAt_8 c3 (by decide) (by decide) rfl (by decide) ?_
    refine j_iconst C 0 dX12_flowAt_44 (by decide) ?_
    obtain rfl := Option.some.inj hm
    exact j_iret C O dX12_flowAt_45
  rcases if_inv hm with ⟨c4, hm⟩ | ⟨c4, hm⟩
  · refine j_swIn C 1 91 dX12_flowAt_8 c4 (by decide) (by decide) rfl (by decide) ?_
    refine j_sub (L' := [(3, .int (hI h 97 (ix v2)))]) [0] rfl ?_
    exact w_Mod_flowAt_91 C O hm
  rcases if_inv hm with ⟨c5, hm⟩ | ⟨c5, hm⟩
  · refine j_swIn C 2 46 dX12_flowAt_8 c5 (by decide) (by decide) rfl (by decide) ?_
    refine j_aload_n C 1 dX12_flowAt_46 rfl rfl ?_
    refine j_gS C f_X12_58 n_84 q_84_26 dX12_flowAt_47 ?_
    refine j_iload_n C 3 dX12_flowAt_50 rfl rfl ?_
    refine j_aload_n C 1 dX12_flowAt_51 rfl rfl ?_
    refine j_iconst C 5 dX12_flowAt_52 (by decide) ?_
    refine j_cV C l_X12_283 [.int ((5 : Int32))] [.int v2, .ref (G.1 + 97)] (fun u1 => some (.int u1)) (fun _ => h) (fun u1 => [.int u1, .int v2, .ref (G.1 + 97)]) n_84 hm (fun l u hu => c_Mod_term hu) rfl (Nat.le_of_ble_eq_true rfl) rfl (Nat.le_of_ble_eq_true rfl) (Nat.le_of_ble_eq_true rfl) (fun _ => rfl) dX12_flowAt_53 (fun u1 hm => ?_)
    refine j_iadd C dX12_flowAt_56 ?_
    refine j_sipush C 1440 dX12_flowAt_57 (by decide) ?_
    refine j_if_icmpge C 73 dX12_flowAt_60 (by decide) hm (fun hm => ?_) (fun hm => ?_)
    · refine j_sipush C 1439 dX12_flowAt_73 (by decide) ?_
      refine j_sub (L' := []) [] rfl ?_
      exact w_Mod_flowAt_76 C O hm
    · refine j_iload_n C 3 dX12_flowAt_63 rfl rfl ?_
      refine j_aload_n C 1 dX12_flowAt_64 rfl rfl ?_
      refine j_iconst C 5 dX12_flowAt_65 (by decide) ?_
      refine j_cV C l_X12_283 [.int ((5 : Int32))] [.int v2, .ref (G.1 + 97)] (fun u2 => some (.int u2)) (fun _ => h) (fun u2 => [.int u2, .int v2, .ref (G.1 + 97)]) n_84 hm (fun l u hu => c_Mod_term hu) rfl (Nat.le_of_ble_eq_true rfl) rfl (Nat.le_of_ble_eq_true rfl) (Nat.le_of_ble_eq_true rfl) (fun _ => rfl) dX12_flowAt_66 (fun u2 hm => ?_)
      refine j_iadd C dX12_flowAt_69 ?_
      refine j_goto C 76 dX12_flowAt_70 (by decide) ?_
      refine j_sub (L' := []) [] rfl ?_
      exact w_Mod_flowAt_76 C O hm
  rcases if_inv hm with ⟨c6, hm⟩ | ⟨c6, hm⟩
  · refine j_swIn C 3 81 dX12_flowAt_8 c6 (by decide) (by decide) rfl (by decide) ?_
    refine j_iload_n C 0 dX12_flowAt_81 rfl rfl ?_
    refine j_iconst C 4 dX12_flowAt_82 (by decide) ?_
    refine j_idiv C dX12_flowAt_83 (by decide) ?_
    obtain rfl := Option.some.inj hm
    exact j_iret C O dX12_flowAt_84
  rcases if_inv hm with ⟨c7, hm⟩ | ⟨c7, hm⟩
  · refine j_swIn C 4 85 dX12_flowAt_8 c7 (by decide) (by decide) rfl (by decide) ?_
    refine j_iload_n C 0 dX12_flowAt_85 rfl rfl ?_
    refine j_iconst C 5 dX12_flowAt_86 (by decide) ?_
    refine j_imul C dX12_flowAt_87 ?_
    refine j_iconst C 4 dX12_flowAt_88 (by decide) ?_
    refine j_idiv C dX12_flowAt_89 (by decide) ?_
    obtain rfl := Option.some.inj hm
    exact j_iret C O dX12_flowAt_90
  refine j_tableOut C 91 dX12_flowAt_8 (by have e0 := sw_ne (n := 0) c3 (by decide); have e1 := sw_ne (n := 1) c4 (by decide); have e2 := sw_ne (n := 2) c5 (by decide); have e3 := sw_ne (n := 3) c6 (by decide); have e4 := sw_ne (n := 4) c7 (by decide); omega) (by decide) ?_
  refine j_sub (L' := [(3, .int (hI h 97 (ix v2)))]) [0] rfl ?_
  exact w_Mod_flowAt_91 C O hm
theorem c_Mod_flowAt {G : jG} {l : Launch} {v1 : Int32} {v2 : Int32} {h : Hp} {out : Int32} (hm : s_Mod_flowAt v1 v2 h = some out) : mt G l yX12_flowAt cX12_flowAt 4 (some .int) 2 91 [.ref (G.1 + 84), .int v1, .int v2] h (some (.int out)) h :=
  mt_of (by decide) (Nat.le_of_ble_eq_true rfl) _ rfl (fun X I C O => w_Mod_flowAt C O hm)
noncomputable def s_Mod_whiteAt_110 (s0 : Int64) (h : Hp) : Option (Int32 × Hp) :=
  (s_Mod_near s0 ((0 : Int32)) ((99 : Int32)) h).bind fun u1 => some (u1, h)
noncomputable def s_Mod_whiteAt_99 (v4 : Int32) (h : Hp) : Option (Int32 × Hp) :=
  s_Mod_whiteAt_110 (Int32.toInt64 (v4 / ((2 : Int32)))) h
noncomputable def s_Mod_whiteAt (v1 : Int32) (v2 : Int32) (h : Hp) : Option (Int32 × Hp) :=
  if v1 = 0 then
    some ((0 : Int32), h)
  else
    (s_Mod_flowAt v1 v2 h).bind fun u1 => (s_Mod_fallOf0 v2 h).bind fun u2 => (s_Mod_term ((9 : Int32)) h).bind fun u3 => (s_Mod_term ((10 : Int32)) h).bind fun u4 => (s_Mod_asksOf u2 u1 v2 u3 u4 v1 ((0 : Int32)) h).bind fun u5 => (s_Mod_asks ((2 : Int32)) u5).bind fun u6 => if (hI u6 84 24) = 0 then
      (s_Mod_term ((9 : Int32)) u6).bind fun u7 => if v1 = ((5 : Int32)) then
        s_Mod_whiteAt_110 (Int32.toInt64 ((-((u1 * u7) / ((1000 : Int32)))) * ((2 : Int32)))) u6
      else
        if v1 = ((2 : Int32)) then
          s_Mod_whiteAt_99 (-((u1 * u7) / ((1000 : Int32)))) u6
        else
          if v1 = ((3 : Int32)) then
            s_Mod_whiteAt_99 (-((u1 * u7) / ((1000 : Int32)))) u6
          else
            s_Mod_whiteAt_110 (Int32.toInt64 (-((u1 * u7) / ((1000 : Int32))))) u6
    else
      (s_Mod_near (hL u6 84 23) ((0 : Int32)) ((99 : Int32)) u6).bind fun u8 => some (u8, u6)
def O_Mod_whiteAt (G : jG) (X : jX) (out : (Int32 × Hp)) : Prop := jO G X (some .int) (some (.int out.1)) out.2
theorem w_Mod_whiteAt_110 {G : jG} {X : jX} (C : jC G X cX12_whiteAt 5 RX12 176 4608) {s0 : Int64} {h : Hp} {out : (Int32 × Hp)} (O : (O_Mod_whiteAt G X) out) (hm : s_Mod_whiteAt_110 s0 h = some out) : J G X 110 [] [.long s0] h := by
  unfold s_Mod_whiteAt_110 at hm
  refine j_iconst C 0 dX12_whiteAt_110 (by decide) ?_
  refine j_bipush C 99 dX12_whiteAt_111 (by decide) ?_
  refine j_cS C l_X12_300 [.long s0, .int ((0 : Int32)), .int ((99 : Int32))] [] (fun u1 => some (.int u1)) (fun _ => h) (fun u1 => [.int u1]) hm (fun l u hu => c_Mod_near hu) rfl (Nat.le_of_ble_eq_true rfl) rfl (Nat.le_of_ble_eq_true rfl) (Nat.le_of_ble_eq_true rfl) (fun _ => rfl) dX12_whiteAt_113 (fun u1 hm => ?_)
  obtain rfl := Option.some.inj hm
  exact j_iret C O dX12_whiteAt_116
theorem w_Mod_whiteAt_99 {G : jG} {X : jX} (C : jC G X cX12_whiteAt 5 RX12 176 4608) {v4 : Int32} {h : Hp} {out : (Int32 × Hp)} (O : (O_Mod_whiteAt G X) out) (hm : s_Mod_whiteAt_99 v4 h = some out) : J G X 99 [(4, .int v4)] [] h := by
  unfold s_Mod_whiteAt_99 at hm
  refine j_iload C 0 dX12_whiteAt_99 rfl ?_
  refine j_iconst C 2 dX12_whiteAt_101 (by decide) ?_
  refine j_idiv C dX12_whiteAt_102 (by decide) ?_
  refine j_i2l C dX12_whiteAt_103 ?_
  refine j_goto C 110 dX12_whiteAt_104 (by decide) ?_
  refine j_sub (L' := []) [] rfl ?_
  exact w_Mod_whiteAt_110 C O hm
theorem w_Mod_whiteAt {G : jG} {X : jX} (C : jC G X cX12_whiteAt 5 RX12 176 4608) {v1 : Int32} {v2 : Int32} {h : Hp} {out : (Int32 × Hp)} (O : (O_Mod_whiteAt G X) out) (hm : s_Mod_whiteAt v1 v2 h = some out) : J G X 0 [(0, .ref (G.1 + 84)), (1, .int v1), (2, .int v2)] [] h := by
  unfold s_Mod_whiteAt at hm
  refine j_iload_n C 1 dX12_whiteAt_0 rfl rfl ?_
  refine j_ifne C 6 dX12_whiteAt_1 (by decide) hm (fun hm => ?_) (fun hm => ?_)
  · refine j_iconst C 0 dX12_whiteAt_4 (by decide) ?_
    obtain rfl := Option.some.inj hm
    exact j_iret C O dX12_whiteAt_5
  · refine j_aload_n C 0 dX12_whiteAt_6 rfl rfl ?_
    refine j_iload_n C 1 dX12_whiteAt_7 rfl rfl ?_
    refine j_iload_n C 2 dX12_whiteAt_8 rfl rfl ?_
    refine j_cV C l_X12_340 [.int v1, .int v2] [] (fun u1 => some (.int u1)) (fun _ => h) (fun u1 => [.int u1]) n_84 hm (fun l u hu => c_Mod_flowAt hu) rfl (Nat.le_of_ble_eq_true rfl) rfl (Nat.le_of_ble_eq_true rfl) (Nat.le_of_ble_eq_true rfl) (fun _ => rfl) dX12_whiteAt_9 (fun u1 hm => ?_)
    refine j_istore_n C [(3, .int u1), (0, .ref (G.1 + 84)), (1, .int v1), (2, .int v2)] dX12_whiteAt_12 rfl (by decide) rfl ?_
    refine j_aload_n C 1 dX12_whiteAt_13 rfl rfl ?_
    refine j_aload_n C 1 dX12_whiteAt_14 rfl rfl ?_
    refine j_iload_n C 3 dX12_whiteAt_15 rfl rfl ?_
    refine j_cV C l_X12_328 [.int v2] [.ref (G.1 + 84)] (fun u2 => some (.int u2)) (fun _ => h) (fun u2 => [.int u2, .ref (G.1 + 84)]) n_84 hm (fun l u hu => c_Mod_fallOf0 hu) rfl (Nat.le_of_ble_eq_true rfl) rfl (Nat.le_of_ble_eq_true rfl) (Nat.le_of_ble_eq_true rfl) (fun _ => rfl) dX12_whiteAt_16 (fun u2 hm => ?_)
    refine j_iload_n C 0 dX12_whiteAt_19 rfl rfl ?_
    refine j_iload_n C 3 dX12_whiteAt_20 rfl rfl ?_
    refine j_aload_n C 1 dX12_whiteAt_21 rfl rfl ?_
    refine j_bipush C 9 dX12_whiteAt_22 (by decide) ?_
    refine j_cV C l_X12_283 [.int ((9 : Int32))] [.int v2, .int u1, .int u2, .ref (G.1 + 84)] (fun u3 => some (.int u3)) (fun _ => h) (fun u3 => [.int u3, .int v2, .int u1, .int u2, .ref (G.1 + 84)]) n_84 hm (fun l u hu => c_Mod_term hu) rfl (Nat.le_of_ble_eq_true rfl) rfl (Nat.le_of_ble_eq_true rfl) (Nat.le_of_ble_eq_true rfl) (fun _ => rfl) dX12_whiteAt_24 (fun u3 hm => ?_)
    refine j_aload_n C 1 dX12_whiteAt_27 rfl rfl ?_
    refine j_bipush C 10 dX12_whiteAt_28 (by decide) ?_
    refine j_cV C l_X12_283 [.int ((10 : Int32))] [.int u3, .int v2, .int u1, .int u2, .ref (G.1 + 84)] (fun u4 => some (.int u4)) (fun _ => h) (fun u4 => [.int u4, .int u3, .int v2, .int u1, .int u2, .ref (G.1 + 84)]) n_84 hm (fun l u hu => c_Mod_term hu) rfl (Nat.le_of_ble_eq_true rfl) rfl (Nat.le_of_ble_eq_true rfl) (Nat.le_of_ble_eq_true rfl) (fun _ => rfl) dX12_whiteAt_30 (fun u4 hm => ?_)
    refine j_iload_n C 2 dX12_whiteAt_33 rfl rfl ?_
    refine j_iconst C 0 dX12_whiteAt_34 (by decide) ?_
    refine j_cV C l_X12_293 [.int u2, .int u1, .int v2, .int u3, .int u4, .int v1, .int ((0 : Int32))] [] (fun _ => none) (fun u5 => u5) (fun u5 => []) n_84 hm (fun l u hu => c_Mod_asksOf hu) rfl (Nat.le_of_ble_eq_true rfl) rfl (Nat.le_of_ble_eq_true rfl) (Nat.le_of_ble_eq_true rfl) (fun _ => rfl) dX12_whiteAt_35 (fun u5 hm => ?_)
    refine j_aload_n C 1 dX12_whiteAt_38 rfl rfl ?_
    refine j_iconst C 2 dX12_whiteAt_39 (by decide) ?_
    refine j_cV C l_X12_297 [.int ((2 : Int32))] [] (fun _ => none) (fun u6 => u6) (fun u6 => []) n_84 hm (fun l u hu => c_Mod_asks hu) rfl (Nat.le_of_ble_eq_true rfl) rfl (Nat.le_of_ble_eq_true rfl) (Nat.le_of_ble_eq_true rfl) (fun _ => rfl) dX12_whiteAt_40 (fun u6 hm => ?_)
    refine j_aload_n C 1 dX12_whiteAt_43 rfl rfl ?_
    refine j_gZ C f_X12_266 n_84 dX12_whiteAt_44 ?_
    refine j_ifeq C 61 dX12_whiteAt_47 (by decide) hm (fun hm => ?_) (fun hm => ?_)
    · refine j_iload_n C 0 dX12_whiteAt_61 rfl rfl ?_
      refine j_aload_n C 1 dX12_whiteAt_62 rfl rfl ?_
      refine j_bipush C 9 dX12_whiteAt_63 (by decide) ?_
      refine j_cV C l_X12_283 [.int ((9 : Int32))] [.int u1] (fun u7 => some (.int u7)) (fun _ => u6) (fun u7 => [.int u7, .int u1]) n_84 hm (fun l u hu => c_Mod_term hu) rfl (Nat.le_of_ble_eq_true rfl) rfl (Nat.le_of_ble_eq_true rfl) (Nat.le_of_ble_eq_true rfl) (fun _ => rfl) dX12_whiteAt_65 (fun u7 hm => ?_)
      refine j_imul C dX12_whiteAt_68 ?_
      refine j_sipush C 1000 dX12_whiteAt_69 (by decide) ?_
      refine j_idiv C dX12_whiteAt_72 (by decide) ?_
      refine j_ineg C dX12_whiteAt_73 ?_
      refine j_istore C [(4, .int (-((u1 * u7) / ((1000 : Int32))))), (3, .int u1), (0, .ref (G.1 + 84)), (1, .int v1), (2, .int v2)] dX12_whiteAt_74 (by decide) rfl ?_
      refine j_iload_n C 3 dX12_whiteAt_76 rfl rfl ?_
      refine j_iconst C 5 dX12_whiteAt_77 (by decide) ?_
      refine j_if_icmpne C 89 dX12_whiteAt_78 (by decide) hm (fun hm => ?_) (fun hm => ?_)
      · refine j_iload C 0 dX12_whiteAt_81 rfl ?_
        refine j_iconst C 2 dX12_whiteAt_83 (by decide) ?_
        refine j_imul C dX12_whiteAt_84 ?_
        refine j_i2l C dX12_whiteAt_85 ?_
        refine j_goto C 110 dX12_whiteAt_86 (by decide) ?_
        refine j_sub (L' := []) [] rfl ?_
        exact w_Mod_whiteAt_110 C O hm
      · refine j_iload_n C 3 dX12_whiteAt_89 rfl rfl ?_
        refine j_iconst C 2 dX12_whiteAt_90 (by decide) ?_
        refine j_if_icmpeq C 99 dX12_whiteAt_91 (by decide) hm (fun hm => ?_) (fun hm => ?_)
        · refine j_sub (L' := [(4, .int (-((u1 * u7) / ((1000 : Int32)))))]) [0] rfl ?_
          exact w_Mod_whiteAt_99 C O hm
        · refine j_iload_n C 3 dX12_whiteAt_94 rfl rfl ?_
          refine j_iconst C 3 dX12_whiteAt_95 (by decide) ?_
          refine j_if_icmpne C 107 dX12_whiteAt_96 (by decide) hm (fun hm => ?_) (fun hm => ?_)
          · refine j_sub (L' := [(4, .int (-((u1 * u7) / ((1000 : Int32)))))]) [0] rfl ?_
            exact w_Mod_whiteAt_99 C O hm
          · refine j_iload C 0 dX12_whiteAt_107 rfl ?_
            refine j_i2l C dX12_whiteAt_109 ?_
            refine j_sub (L' := []) [] rfl ?_
            exact w_Mod_whiteAt_110 C O hm
    · refine j_aload_n C 1 dX12_whiteAt_50 rfl rfl ?_
      refine j_gL C f_X12_262 n_84 dX12_whiteAt_51 ?_
      refine j_iconst C 0 dX12_whiteAt_54 (by decide) ?_
      refine j_bipush C 99 dX12_whiteAt_55 (by decide) ?_
      refine j_cS C l_X12_300 [.long (hL u6 84 23), .int ((0 : Int32)), .int ((99 : Int32))] [] (fun u8 => some (.int u8)) (fun _ => u6) (fun u8 => [.int u8]) hm (fun l u hu => c_Mod_near hu) rfl (Nat.le_of_ble_eq_true rfl) rfl (Nat.le_of_ble_eq_true rfl) (Nat.le_of_ble_eq_true rfl) (fun _ => rfl) dX12_whiteAt_57 (fun u8 hm => ?_)
      obtain rfl := Option.some.inj hm
      exact j_iret C O dX12_whiteAt_60
theorem c_Mod_whiteAt {G : jG} {l : Launch} {v1 : Int32} {v2 : Int32} {h : Hp} {out : (Int32 × Hp)} (hm : s_Mod_whiteAt v1 v2 h = some out) : mt G l yX12_whiteAt cX12_whiteAt 5 (some .int) 176 4608 [.ref (G.1 + 84), .int v1, .int v2] h (some (.int out.1)) out.2 :=
  mt_of (by decide) (Nat.le_of_ble_eq_true rfl) _ rfl (fun X I C O => w_Mod_whiteAt C O hm)
