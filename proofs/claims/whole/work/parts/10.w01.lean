noncomputable def b_Locks_lineUp_204 (rc0 : Int32 → Int32 → Int32 → Int32 → Hp → Option Hp) (v1 : Int32) (v2 : Int32) (v3 : Int32) (v4 : Int32) (v5 : Int32) (h : Hp) : Option ((Int32 × Int32 × Int32 × Int32 × Int32 × Hp) ⊕ Hp) :=
  some (.inl (v1, v2, v3, v4, (v5 + (1 : Int32)), h))
noncomputable def b_Locks_lineUp_159 (rc0 : Int32 → Int32 → Int32 → Int32 → Hp → Option Hp) (v1 : Int32) (v2 : Int32) (v3 : Int32) (v4 : Int32) (v5 : Int32) (v7 : Int32) (v8 : Int32) (h : Hp) : Option ((Int32 × Int32 × Int32 × Int32 × Int32 × Hp) ⊕ Hp) :=
  ib v1 6 <| lt (sI h 70 (ix v1) v5) fun h1 => ib v5 6 <| lt (sI h1 71 (ix v5) v7) fun h2 => ib v5 6 <| (rc0 (v1 + ((1 : Int32))) (v2 ||| (z_shl ((1 : Int32)) v5)) (v7 + (hI h2 11 (ix v5))) v8 h2).bind fun u3 => b_Locks_lineUp_204 rc0 v1 v2 v3 v4 v5 u3
noncomputable def b_Locks_lineUp_51 (rc0 : Int32 → Int32 → Int32 → Int32 → Hp → Option Hp) (v1 : Int32) (v2 : Int32) (v3 : Int32) (v4 : Int32) (v5 : Int32) (h : Hp) : Option ((Int32 × Int32 × Int32 × Int32 × Int32 × Hp) ⊕ Hp) :=
  if (hI h 1 17) ≤ v5 then
    some (.inr h)
  else
    ib v5 6 <| if ((z_shr v2 v5) &&& ((1 : Int32))) = 0 then
      if (z_max v3 (hI h 10 (ix v5))) < ((1440 : Int32)) then
        nn (hR h 69 2) fun r1 => ak h r1 0 <| ib ((v5 * ((1440 : Int32))) + (z_max v3 (hI h 10 (ix v5)))) (ln h r1) <| lt (hI h r1 (ix ((v5 * ((1440 : Int32))) + (z_max v3 (hI h 10 (ix v5)))))) fun x4 => ib v5 6 <| if x4 = ((-1 : Int32)) then
          b_Locks_lineUp_204 rc0 v1 v2 v3 v4 v5 h
        else
          if (hI h 69 7) = ((-1 : Int32)) then
            b_Locks_lineUp_159 rc0 v1 v2 v3 v4 v5 x4 ((v4 + x4) - (hI h 10 (ix v5))) h
          else
            if ((v4 + x4) - (hI h 10 (ix v5))) < (hI h 69 7) then
              b_Locks_lineUp_159 rc0 v1 v2 v3 v4 v5 x4 ((v4 + x4) - (hI h 10 (ix v5))) h
            else
              b_Locks_lineUp_204 rc0 v1 v2 v3 v4 v5 h
      else
        b_Locks_lineUp_204 rc0 v1 v2 v3 v4 v5 h
    else
      b_Locks_lineUp_204 rc0 v1 v2 v3 v4 v5 h
noncomputable def b_Locks_lineUp (rc0 : Int32 → Int32 → Int32 → Int32 → Hp → Option Hp) (v1 : Int32) (v2 : Int32) (v3 : Int32) (v4 : Int32) (h : Hp) : Option Hp :=
  if v1 < (hI h 1 17) then
    lp (fun q => b_Locks_lineUp_51 rc0 q.1 q.2.1 q.2.2.1 q.2.2.2.1 q.2.2.2.2.1 q.2.2.2.2.2) (v1, v2, v3, v4, ((0 : Int32)), h)
  else
    lt (sI h 69 7 v4) fun h1 => cy h1 70 ((0 : Int32)) 72 ((0 : Int32)) ((6 : Int32)) <| lt (cpI h1 70 ((0 : Int32)) 72 ((0 : Int32)) ((6 : Int32))) fun h2 => cy h2 71 ((0 : Int32)) 73 ((0 : Int32)) ((6 : Int32)) <| some (cpI h2 71 ((0 : Int32)) 73 ((0 : Int32)) ((6 : Int32)))
noncomputable def r_Locks_lineUp : Nat → (Int32 → Int32 → Int32 → Int32 → Hp → Option Hp)
  | 0 => (fun _ _ _ _ _ => none)
  | d + 1 => (b_Locks_lineUp ((r_Locks_lineUp d)))
noncomputable def s_Locks_lineUp (v1 : Int32) (v2 : Int32) (v3 : Int32) (v4 : Int32) (h : Hp) : Option Hp := (r_Locks_lineUp 10) v1 v2 v3 v4 h
def O_Locks_lineUp (G : jG) (X : jX) (out : Hp) : Prop := jO G X (none) none out
def P_Locks_lineUp_51 (G : jG) (X : jX) (q : Int32 × Int32 × Int32 × Int32 × Int32 × Hp) : Prop := J G X 51 [(0, .ref (G.1 + 69)), (1, .int q.1), (2, .int q.2.1), (3, .int q.2.2.1), (4, .int q.2.2.2.1), (5, .int q.2.2.2.2.1)] [] q.2.2.2.2.2
def O_Locks_lineUp_51 (G : jG) (X : jX) (t : ((Int32 × Int32 × Int32 × Int32 × Int32 × Hp) ⊕ Hp)) : Prop := Sum.elim (P_Locks_lineUp_51 G X) (O_Locks_lineUp G X) t
theorem w_Locks_lineUp_204 {G : jG} {X : jX} {d : Nat} {rc0 : Int32 → Int32 → Int32 → Int32 → Hp → Option Hp} (C : jC G X cX2_lineUp 9 RX2 (1 + (d + 1)) (70 + 28 * (d + 1))) (IH0 : ∀ (l : Launch) (v1 : Int32) (v2 : Int32) (v3 : Int32) (v4 : Int32) (h : Hp) (out : Hp), rc0 v1 v2 v3 v4 h = some out → mt G l yX2_lineUp cX2_lineUp 9 (none) (1 + d) (70 + 28 * d) [.ref (G.1 + 69), .int v1, .int v2, .int v3, .int v4] h none out) {v1 : Int32} {v2 : Int32} {v3 : Int32} {v4 : Int32} {v5 : Int32} {h : Hp} {out : ((Int32 × Int32 × Int32 × Int32 × Int32 × Hp) ⊕ Hp)} (O : (O_Locks_lineUp_51 G X) out) (hm : b_Locks_lineUp_204 rc0 v1 v2 v3 v4 v5 h = some out) : J G X 204 [(0, .ref (G.1 + 69)), (1, .int v1), (2, .int v2), (3, .int v3), (4, .int v4), (5, .int v5)] [] h := by
  unfold b_Locks_lineUp_204 at hm
  refine j_iinc C 5 [(5, .int (v5 + (1 : Int32))), (0, .ref (G.1 + 69)), (1, .int v1), (2, .int v2), (3, .int v3), (4, .int v4)] dX2_lineUp_204 rfl (add_lit (by decide)) (by decide) rfl ?_
  refine j_goto C 51 dX2_lineUp_207 (by decide) ?_
  obtain rfl := Option.some.inj hm
  refine j_sub (L' := [(0, .ref (G.1 + 69)), (1, .int v1), (2, .int v2), (3, .int v3), (4, .int v4), (5, .int (v5 + (1 : Int32)))]) [1, 2, 3, 4, 5, 0] rfl ?_
  exact O
theorem w_Locks_lineUp_159 {G : jG} {X : jX} {d : Nat} {rc0 : Int32 → Int32 → Int32 → Int32 → Hp → Option Hp} (C : jC G X cX2_lineUp 9 RX2 (1 + (d + 1)) (70 + 28 * (d + 1))) (IH0 : ∀ (l : Launch) (v1 : Int32) (v2 : Int32) (v3 : Int32) (v4 : Int32) (h : Hp) (out : Hp), rc0 v1 v2 v3 v4 h = some out → mt G l yX2_lineUp cX2_lineUp 9 (none) (1 + d) (70 + 28 * d) [.ref (G.1 + 69), .int v1, .int v2, .int v3, .int v4] h none out) {v1 : Int32} {v2 : Int32} {v3 : Int32} {v4 : Int32} {v5 : Int32} {v7 : Int32} {v8 : Int32} {h : Hp} {out : ((Int32 × Int32 × Int32 × Int32 × Int32 × Hp) ⊕ Hp)} (O : (O_Locks_lineUp_51 G X) out) (hm : b_Locks_lineUp_159 rc0 v1 v2 v3 v4 v5 v7 v8 h = some out) : J G X 159 [(0, .ref (G.1 + 69)), (1, .int v1), (2, .int v2), (3, .int v3), (4, .int v4), (5, .int v5), (7, .int v7), (8, .int v8)] [] h := by
  unfold b_Locks_lineUp_159 at hm
  refine j_aload_n C 0 dX2_lineUp_159 rfl rfl ?_
  refine j_gS C f_X2_15 n_69 q_69_3 dX2_lineUp_160 ?_
  refine j_iload_n C 1 dX2_lineUp_163 rfl rfl ?_
  refine j_iload C 5 dX2_lineUp_164 rfl ?_
  refine j_iast C n_70 hm dX2_lineUp_166 (fun hm => ?_)
  refine j_aload_n C 0 dX2_lineUp_167 rfl rfl ?_
  refine j_nmH hm (fun h1 hm => ?_)
  refine j_gS C f_X2_18 n_69 q_69_4 dX2_lineUp_168 ?_
  refine j_iload C 5 dX2_lineUp_171 rfl ?_
  refine j_iload C 6 dX2_lineUp_173 rfl ?_
  refine j_iast C n_71 hm dX2_lineUp_175 (fun hm => ?_)
  refine j_aload_n C 0 dX2_lineUp_176 rfl rfl ?_
  refine j_iload_n C 1 dX2_lineUp_177 rfl rfl ?_
  refine j_iconst C 1 dX2_lineUp_178 (by decide) ?_
  refine j_iadd C dX2_lineUp_179 ?_
  refine j_iload_n C 2 dX2_lineUp_180 rfl rfl ?_
  refine j_iconst C 1 dX2_lineUp_181 (by decide) ?_
  refine j_iload C 5 dX2_lineUp_182 rfl ?_
  refine j_ishl C dX2_lineUp_184 ?_
  refine j_ior C dX2_lineUp_185 ?_
  refine j_iload C 6 dX2_lineUp_186 rfl ?_
  refine j_aload_n C 0 dX2_lineUp_188 rfl rfl ?_
  refine j_nmH hm (fun h2 hm => ?_)
  refine j_gS C f_X2_35 n_69 q_69_0 dX2_lineUp_189 ?_
  refine j_gS C f_X2_70 n_1 q_1_9 dX2_lineUp_192 ?_
  refine j_iload C 5 dX2_lineUp_195 rfl ?_
  refine j_iald C n_11 hm dX2_lineUp_197 (fun hm => ?_)
  refine j_iadd C dX2_lineUp_198 ?_
  refine j_iload C 7 dX2_lineUp_199 rfl ?_
  refine j_cV C l_X2_52 [.int (v1 + ((1 : Int32))), .int (v2 ||| (z_shl ((1 : Int32)) v5)), .int (v7 + (hI h2 11 (ix v5))), .int v8] [] (fun _ => none) (fun u3 => u3) (fun u3 => []) n_69 hm (fun l u hu => IH0 _ _ _ _ _ _ _ hu) rfl (Nat.le_of_ble_eq_true rfl) rfl (by omega) (by omega) (fun _ => rfl) dX2_lineUp_201 (fun u3 hm => ?_)
  refine j_sub (L' := [(0, .ref (G.1 + 69)), (1, .int v1), (2, .int v2), (3, .int v3), (4, .int v4), (5, .int v5)]) [0, 1, 2, 3, 4, 5] rfl ?_
  exact w_Locks_lineUp_204 C IH0 O hm
theorem w_Locks_lineUp_51 {G : jG} {X : jX} {d : Nat} {rc0 : Int32 → Int32 → Int32 → Int32 → Hp → Option Hp} (C : jC G X cX2_lineUp 9 RX2 (1 + (d + 1)) (70 + 28 * (d + 1))) (IH0 : ∀ (l : Launch) (v1 : Int32) (v2 : Int32) (v3 : Int32) (v4 : Int32) (h : Hp) (out : Hp), rc0 v1 v2 v3 v4 h = some out → mt G l yX2_lineUp cX2_lineUp 9 (none) (1 + d) (70 + 28 * d) [.ref (G.1 + 69), .int v1, .int v2, .int v3, .int v4] h none out) {v1 : Int32} {v2 : Int32} {v3 : Int32} {v4 : Int32} {v5 : Int32} {h : Hp} {out : ((Int32 × Int32 × Int32 × Int32 × Int32 × Hp) ⊕ Hp)} (O : (O_Locks_lineUp_51 G X) out) (hm : b_Locks_lineUp_51 rc0 v1 v2 v3 v4 v5 h = some out) : J G X 51 [(0, .ref (G.1 + 69)), (1, .int v1), (2, .int v2), (3, .int v3), (4, .int v4), (5, .int v5)] [] h := by
  unfold b_Locks_lineUp_51 at hm
  refine j_iload C 5 dX2_lineUp_51 rfl ?_
  refine j_aload_n C 0 dX2_lineUp_53 rfl rfl ?_
  refine j_gS C f_X2_35 n_69 q_69_0 dX2_lineUp_54 ?_
  refine j_gI C f_X2_43 n_1 dX2_lineUp_57 ?_
  refine j_if_icmpge C 210 dX2_lineUp_60 (by decide) hm (fun hm => ?_) (fun hm => ?_)
  · obtain rfl := Option.some.inj hm
    exact j_vret C O dX2_lineUp_210
  · refine j_iload_n C 3 dX2_lineUp_63 rfl rfl ?_
    refine j_aload_n C 0 dX2_lineUp_64 rfl rfl ?_
    refine j_gS C f_X2_35 n_69 q_69_0 dX2_lineUp_65 ?_
    refine j_gS C f_X2_79 n_1 q_1_8 dX2_lineUp_68 ?_
    refine j_iload C 5 dX2_lineUp_71 rfl ?_
    refine j_iald C n_10 hm dX2_lineUp_73 (fun hm => ?_)
    refine j_mmax C wd_1158 wd_936 wd_126 wd_937 (by omega) (Nat.le_trans (Nat.le_of_ble_eq_true (m := 70) rfl) (Nat.le_add_right _ _)) dX2_lineUp_74 ?_
    refine j_istore C [(6, .int (z_max v3 (hI h 10 (ix v5)))), (0, .ref (G.1 + 69)), (1, .int v1), (2, .int v2), (3, .int v3), (4, .int v4), (5, .int v5)] dX2_lineUp_77 (by decide) rfl ?_
    refine j_iload_n C 3 dX2_lineUp_79 rfl rfl ?_
    refine j_iload C 6 dX2_lineUp_80 rfl ?_
    refine j_ishr C dX2_lineUp_82 ?_
    refine j_iconst C 1 dX2_lineUp_83 (by decide) ?_
    refine j_iand C dX2_lineUp_84 ?_
    refine j_ifne C 204 dX2_lineUp_85 (by decide) hm (fun hm => ?_) (fun hm => ?_)
    · refine j_iload C 0 dX2_lineUp_88 rfl ?_
      refine j_sipush C 1440 dX2_lineUp_90 (by decide) ?_
      refine j_if_icmplt C 99 dX2_lineUp_93 (by decide) hm (fun hm => ?_) (fun hm => ?_)
      · refine j_aload_n C 1 dX2_lineUp_99 rfl rfl ?_
        refine j_gR C f_X2_9 n_69 q_69_2 dX2_lineUp_100 ?_
        refine j_iload C 6 dX2_lineUp_103 rfl ?_
        refine j_sipush C 1440 dX2_lineUp_105 (by decide) ?_
        refine j_imul C dX2_lineUp_108 ?_
        refine j_iload C 0 dX2_lineUp_109 rfl ?_
        refine j_iadd C dX2_lineUp_111 ?_
        obtain ⟨r1, c2, hm⟩ := nn_inv hm
        rw [c2]
        change J G X _ _ _ _
        obtain ⟨c3, hm⟩ := ak_inv hm
        refine j_iald C c3 hm dX2_lineUp_112 (fun hm => ?_)
        refine j_nmI hm (fun x4 hm => ?_)
        refine j_istore C [(7, .int x4), (6, .int (z_max v3 (hI h 10 (ix v5)))), (0, .ref (G.1 + 69)), (1, .int v1), (2, .int v2), (3, .int v3), (4, .int v4), (5, .int v5)] dX2_lineUp_113 (by decide) rfl ?_
        refine j_iload C 6 dX2_lineUp_115 rfl ?_
        refine j_iload C 0 dX2_lineUp_117 rfl ?_
        refine j_iadd C dX2_lineUp_119 ?_
        refine j_aload_n C 2 dX2_lineUp_120 rfl rfl ?_
        refine j_gS C f_X2_35 n_69 q_69_0 dX2_lineUp_121 ?_
        refine j_gS C f_X2_79 n_1 q_1_8 dX2_lineUp_124 ?_
        refine j_iload C 7 dX2_lineUp_127 rfl ?_
        refine j_iald C n_10 hm dX2_lineUp_129 (fun hm => ?_)
        refine j_isub C dX2_lineUp_130 ?_
        refine j_istore C [(8, .int ((v4 + x4) - (hI h 10 (ix v5)))), (7, .int x4), (6, .int (z_max v3 (hI h 10 (ix v5)))), (0, .ref (G.1 + 69)), (1, .int v1), (2, .int v2), (3, .int v3), (4, .int v4), (5, .int v5)] dX2_lineUp_131 (by decide) rfl ?_
        refine j_iload C 1 dX2_lineUp_133 rfl ?_
        refine j_iconst C (-1 : Int32) dX2_lineUp_135 (by decide) ?_
        refine j_if_icmpeq C 204 dX2_lineUp_136 (by decide) hm (fun hm => ?_) (fun hm => ?_)
        · refine j_sub (L' := [(0, .ref (G.1 + 69)), (1, .int v1), (2, .int v2), (3, .int v3), (4, .int v4), (5, .int v5)]) [3, 4, 5, 6, 7, 8] rfl ?_
          exact w_Locks_lineUp_204 C IH0 O hm
        · refine j_aload_n C 3 dX2_lineUp_139 rfl rfl ?_
          refine j_gI C f_X2_27 n_69 dX2_lineUp_140 ?_
          refine j_iconst C (-1 : Int32) dX2_lineUp_143 (by decide) ?_
          refine j_if_icmpeq C 159 dX2_lineUp_144 (by decide) hm (fun hm => ?_) (fun hm => ?_)
          · refine j_sub (L' := [(0, .ref (G.1 + 69)), (1, .int v1), (2, .int v2), (3, .int v3), (4, .int v4), (5, .int v5), (7, .int x4), (8, .int ((v4 + x4) - (hI h 10 (ix v5))))]) [3, 4, 5, 6, 7, 8, 1, 0] rfl ?_
            exact w_Locks_lineUp_159 C IH0 O hm
          · refine j_iload C 0 dX2_lineUp_147 rfl ?_
            refine j_aload_n C 3 dX2_lineUp_149 rfl rfl ?_
            refine j_gI C f_X2_27 n_69 dX2_lineUp_150 ?_
            refine j_if_icmplt C 159 dX2_lineUp_153 (by decide) hm (fun hm => ?_) (fun hm => ?_)
            · refine j_sub (L' := [(0, .ref (G.1 + 69)), (1, .int v1), (2, .int v2), (3, .int v3), (4, .int v4), (5, .int v5), (7, .int x4), (8, .int ((v4 + x4) - (hI h 10 (ix v5))))]) [3, 4, 5, 6, 7, 8, 1, 0] rfl ?_
              exact w_Locks_lineUp_159 C IH0 O hm
            · refine j_goto C 204 dX2_lineUp_156 (by decide) ?_
              refine j_sub (L' := [(0, .ref (G.1 + 69)), (1, .int v1), (2, .int v2), (3, .int v3), (4, .int v4), (5, .int v5)]) [3, 4, 5, 6, 7, 8] rfl ?_
              exact w_Locks_lineUp_204 C IH0 O hm
      · refine j_goto C 204 dX2_lineUp_96 (by decide) ?_
        refine j_sub (L' := [(0, .ref (G.1 + 69)), (1, .int v1), (2, .int v2), (3, .int v3), (4, .int v4), (5, .int v5)]) [1, 2, 3, 4, 5, 6] rfl ?_
        exact w_Locks_lineUp_204 C IH0 O hm
    · refine j_sub (L' := [(0, .ref (G.1 + 69)), (1, .int v1), (2, .int v2), (3, .int v3), (4, .int v4), (5, .int v5)]) [1, 2, 3, 4, 5, 6] rfl ?_
      exact w_Locks_lineUp_204 C IH0 O hm
theorem k_Locks_lineUp_51 {G : jG} {X : jX} {d : Nat} {rc0 : Int32 → Int32 → Int32 → Int32 → Hp → Option Hp} (C : jC G X cX2_lineUp 9 RX2 (1 + (d + 1)) (70 + 28 * (d + 1))) (IH0 : ∀ (l : Launch) (v1 : Int32) (v2 : Int32) (v3 : Int32) (v4 : Int32) (h : Hp) (out : Hp), rc0 v1 v2 v3 v4 h = some out → mt G l yX2_lineUp cX2_lineUp 9 (none) (1 + d) (70 + 28 * d) [.ref (G.1 + 69), .int v1, .int v2, .int v3, .int v4] h none out) {v1 : Int32} {v2 : Int32} {v3 : Int32} {v4 : Int32} {v5 : Int32} {h : Hp} {out : Hp} (O : (O_Locks_lineUp G X) out) (hm : lp (fun q => b_Locks_lineUp_51 rc0 q.1 q.2.1 q.2.2.1 q.2.2.2.1 q.2.2.2.2.1 q.2.2.2.2.2) (v1, v2, v3, v4, v5, h) = some out) : J G X 51 [(0, .ref (G.1 + 69)), (1, .int v1), (2, .int v2), (3, .int v3), (4, .int v4), (5, .int v5)] [] h :=
  lp_ok (P := P_Locks_lineUp_51 G X) (O := (O_Locks_lineUp G X)) (fun q r hm O => w_Locks_lineUp_51 C IH0 O hm) hm O
theorem w_Locks_lineUp {G : jG} {X : jX} {d : Nat} {rc0 : Int32 → Int32 → Int32 → Int32 → Hp → Option Hp} (C : jC G X cX2_lineUp 9 RX2 (1 + (d + 1)) (70 + 28 * (d + 1))) (IH0 : ∀ (l : Launch) (v1 : Int32) (v2 : Int32) (v3 : Int32) (v4 : Int32) (h : Hp) (out : Hp), rc0 v1 v2 v3 v4 h = some out → mt G l yX2_lineUp cX2_lineUp 9 (none) (1 + d) (70 + 28 * d) [.ref (G.1 + 69), .int v1, .int v2, .int v3, .int v4] h none out) {v1 : Int32} {v2 : Int32} {v3 : Int32} {v4 : Int32} {h : Hp} {out : Hp} (O : (O_Locks_lineUp G X) out) (hm : b_Locks_lineUp rc0 v1 v2 v3 v4 h = some out) : J G X 0 [(0, .ref (G.1 + 69)), (1, .int v1), (2, .int v2), (3, .int v3), (4, .int v4)] [] h := by
  unfold b_Locks_lineUp at hm
  refine j_iload_n C 1 dX2_lineUp_0 rfl rfl ?_
  refine j_aload_n C 0 dX2_lineUp_1 rfl rfl ?_
  refine j_gS C f_X2_35 n_69 q_69_0 dX2_lineUp_2 ?_
  refine j_gI C f_X2_43 n_1 dX2_lineUp_5 ?_
  refine j_if_icmplt C 48 dX2_lineUp_8 (by decide) hm (fun hm => ?_) (fun hm => ?_)
  · refine j_iconst C 0 dX2_lineUp_48 (by decide) ?_
    refine j_istore C [(5, .int ((0 : Int32))), (0, .ref (G.1 + 69)), (1, .int v1), (2, .int v2), (3, .int v3), (4, .int v4)] dX2_lineUp_49 (by decide) rfl ?_
    refine j_sub (L' := [(0, .ref (G.1 + 69)), (1, .int v1), (2, .int v2), (3, .int v3), (4, .int v4), (5, .int ((0 : Int32)))]) [1, 2, 3, 4, 5, 0] rfl ?_
    exact k_Locks_lineUp_51 C IH0 O hm
  · refine j_aload_n C 0 dX2_lineUp_11 rfl rfl ?_
    refine j_iload C 4 dX2_lineUp_12 rfl ?_
    refine j_pI C f_X2_27 n_69 dX2_lineUp_14 ?_
    refine j_aload_n C 0 dX2_lineUp_17 rfl rfl ?_
    refine j_nmH hm (fun h1 hm => ?_)
    refine j_gS C f_X2_15 n_69 q_69_3 dX2_lineUp_18 ?_
    refine j_iconst C 0 dX2_lineUp_21 (by decide) ?_
    refine j_aload_n C 0 dX2_lineUp_22 rfl rfl ?_
    refine j_gS C f_X2_21 n_69 q_69_5 dX2_lineUp_23 ?_
    refine j_iconst C 0 dX2_lineUp_26 (by decide) ?_
    refine j_bipush C 6 dX2_lineUp_27 (by decide) ?_
    refine j_copy C wd_1157 wd_844 wd_843 wd_128 (by omega) (Nat.le_trans (Nat.le_of_ble_eq_true (m := 70) rfl) (Nat.le_add_right _ _)) hm dX2_lineUp_29 (fun hm => ?_)
    refine j_aload_n C 0 dX2_lineUp_32 rfl rfl ?_
    refine j_nmH hm (fun h2 hm => ?_)
    refine j_gS C f_X2_18 n_69 q_69_4 dX2_lineUp_33 ?_
    refine j_iconst C 0 dX2_lineUp_36 (by decide) ?_
    refine j_aload_n C 0 dX2_lineUp_37 rfl rfl ?_
    refine j_gS C f_X2_24 n_69 q_69_6 dX2_lineUp_38 ?_
    refine j_iconst C 0 dX2_lineUp_41 (by decide) ?_
    refine j_bipush C 6 dX2_lineUp_42 (by decide) ?_
    refine j_copy C wd_1157 wd_844 wd_843 wd_128 (by omega) (Nat.le_trans (Nat.le_of_ble_eq_true (m := 70) rfl) (Nat.le_add_right _ _)) hm dX2_lineUp_44 (fun hm => ?_)
    obtain rfl := Option.some.inj hm
    exact j_vret C O dX2_lineUp_47
theorem c_r_Locks_lineUp {G : jG} : ∀ d : Nat, (∀ (l : Launch) (v1 : Int32) (v2 : Int32) (v3 : Int32) (v4 : Int32) (h : Hp) (out : Hp), (r_Locks_lineUp d) v1 v2 v3 v4 h = some out → mt G l yX2_lineUp cX2_lineUp 9 (none) (1 + d) (70 + 28 * d) [.ref (G.1 + 69), .int v1, .int v2, .int v3, .int v4] h none out)
  | 0 => fun _ _ _ _ _ _ _ e => (by cases e)
  | d + 1 => by
    have g0 := c_r_Locks_lineUp (G := G) d
    exact fun l v1 v2 v3 v4 h out hm => mt_of (by decide) (Nat.le_of_ble_eq_true rfl) _ rfl (fun X _ C O => w_Locks_lineUp C g0 O hm)
theorem c_Locks_lineUp {G : jG} {l : Launch} {v1 : Int32} {v2 : Int32} {v3 : Int32} {v4 : Int32} {h : Hp} {out : Hp} (hm : s_Locks_lineUp v1 v2 v3 v4 h = some out) : mt G l yX2_lineUp cX2_lineUp 9 (none) 11 350 [.ref (G.1 + 69), .int v1, .int v2, .int v3, .int v4] h none out := (c_r_Locks_lineUp 10) l v1 v2 v3 v4 h out hm
noncomputable def s_Locks_freshen_36 (v1 : Int32) (h : Hp) : Option ((Int32 × Hp) ⊕ Hp) :=
  if (hI h 1 17) ≤ v1 then
    (s_Locks_lineUp ((0 : Int32)) ((0 : Int32)) ((0 : Int32)) ((0 : Int32)) (sI h 69 7 ((-1 : Int32)))).bind fun u1 => some (.inr (sI u1 69 8 ((1 : Int32))))
  else
    (s_Locks_findBegins v1 h).bind fun u2 => some (.inl ((v1 + (1 : Int32)), u2))
noncomputable def s_Locks_freshen_34 (h : Hp) : Option Hp :=
  lp (fun q => s_Locks_freshen_36 q.1 q.2) (((0 : Int32)), h)
noncomputable def s_Locks_freshen (h : Hp) : Option Hp :=
  if (hI h 69 8) = 0 then
    nq (hR h 69 2) (if (hI h 1 17) ≤ 0 then
        s_Locks_freshen_34 h
      else
        nl ((8640 : Int32)) <| s_Locks_freshen_34 (sR (al h 0 (ix ((8640 : Int32)))) 69 2 (some (nid h)))) fun r1 => s_Locks_freshen_34 h
  else
    some h
def O_Locks_freshen (G : jG) (X : jX) (out : Hp) : Prop := jO G X (none) none out
def P_Locks_freshen_36 (G : jG) (X : jX) (q : Int32 × Hp) : Prop := J G X 36 [(0, .ref (G.1 + 69)), (1, .int q.1)] [] q.2
def O_Locks_freshen_36 (G : jG) (X : jX) (t : ((Int32 × Hp) ⊕ Hp)) : Prop := Sum.elim (P_Locks_freshen_36 G X) (O_Locks_freshen G X) t
theorem w_Locks_freshen_36 {G : jG} {X : jX} (C : jC G X cX2_freshen 2 RX2 12 378) {v1 : Int32} {h : Hp} {out : ((Int32 × Hp) ⊕ Hp)} (O : (O_Locks_freshen_36 G X) out) (hm : s_Locks_freshen_36 v1 h = some out) : J G X 36 [(0, .ref (G.1 + 69)), (1, .int v1)] [] h := by
  unfold s_Locks_freshen_36 at hm
  refine j_iload_n C 1 dX2_freshen_36 rfl rfl ?_
  refine j_aload_n C 0 dX2_freshen_37 rfl rfl ?_
  refine j_gS C f_X2_35 n_69 q_69_0 dX2_freshen_38 ?_
  refine j_gI C f_X2_43 n_1 dX2_freshen_41 ?_
  refine j_if_icmpge C 58 dX2_freshen_44 (by decide) hm (fun hm => ?_) (fun hm => ?_)
  · refine j_aload_n C 0 dX2_freshen_58 rfl rfl ?_
    refine j_iconst C (-1 : Int32) dX2_freshen_59 (by decide) ?_
    refine j_pI C f_X2_27 n_69 dX2_freshen_60 ?_
    refine j_aload_n C 0 dX2_freshen_63 rfl rfl ?_
    refine j_iconst C 0 dX2_freshen_64 (by decide) ?_
    refine j_iconst C 0 dX2_freshen_65 (by decide) ?_
    refine j_iconst C 0 dX2_freshen_66 (by decide) ?_
    refine j_iconst C 0 dX2_freshen_67 (by decide) ?_
    refine j_cV C l_X2_52 [.int ((0 : Int32)), .int ((0 : Int32)), .int ((0 : Int32)), .int ((0 : Int32))] [] (fun _ => none) (fun u1 => u1) (fun u1 => []) n_69 hm (fun l u hu => c_Locks_lineUp hu) rfl (Nat.le_of_ble_eq_true rfl) rfl (Nat.le_of_ble_eq_true rfl) (Nat.le_of_ble_eq_true rfl) (fun _ => rfl) dX2_freshen_68 (fun u1 hm => ?_)
    refine j_aload_n C 0 dX2_freshen_71 rfl rfl ?_
    refine j_iconst C 1 dX2_freshen_72 (by decide) ?_
    refine j_pZ C f_X2_31 n_69 (by decide) dX2_freshen_73 ?_
    obtain rfl := Option.some.inj hm
    exact j_vret C O dX2_freshen_76
  · refine j_aload_n C 0 dX2_freshen_47 rfl rfl ?_
    refine j_iload_n C 1 dX2_freshen_48 rfl rfl ?_
    refine j_cV C l_X2_48 [.int v1] [] (fun _ => none) (fun u2 => u2) (fun u2 => []) n_69 hm (fun l u hu => c_Locks_findBegins hu) rfl (Nat.le_of_ble_eq_true rfl) rfl (Nat.le_of_ble_eq_true rfl) (Nat.le_of_ble_eq_true rfl) (fun _ => rfl) dX2_freshen_49 (fun u2 hm => ?_)
    refine j_iinc C 1 [(1, .int (v1 + (1 : Int32))), (0, .ref (G.1 + 69))] dX2_freshen_52 rfl (add_lit (by decide)) (by decide) rfl ?_
    refine j_goto C 36 dX2_freshen_55 (by decide) ?_
    obtain rfl := Option.some.inj hm
    refine j_sub (L' := [(0, .ref (G.1 + 69)), (1, .int (v1 + (1 : Int32)))]) [1, 0] rfl ?_
    exact O
theorem k_Locks_freshen_36 {G : jG} {X : jX} (C : jC G X cX2_freshen 2 RX2 12 378) {v1 : Int32} {h : Hp} {out : Hp} (O : (O_Locks_freshen G X) out) (hm : lp (fun q => s_Locks_freshen_36 q.1 q.2) (v1, h) = some out) : J G X 36 [(0, .ref (G.1 + 69)), (1, .int v1)] [] h :=
  lp_ok (P := P_Locks_freshen_36 G X) (O := (O_Locks_freshen G X)) (fun q r hm O => w_Locks_freshen_36 C O hm) hm O
theorem w_Locks_freshen_34 {G : jG} {X : jX} (C : jC G X cX2_freshen 2 RX2 12 378) {h : Hp} {out : Hp} (O : (O_Locks_freshen G X) out) (hm : s_Locks_freshen_34 h = some out) : J G X 34 [(0, .ref (G.1 + 69))] [] h := by
  unfold s_Locks_freshen_34 at hm
  refine j_iconst C 0 dX2_freshen_34 (by decide) ?_
  refine j_istore_n C [(1, .int ((0 : Int32))), (0, .ref (G.1 + 69))] dX2_freshen_35 rfl (by decide) rfl ?_
  refine j_sub (L' := [(0, .ref (G.1 + 69)), (1, .int ((0 : Int32)))]) [1, 0] rfl ?_
  exact k_Locks_freshen_36 C O hm
theorem w_Locks_freshen {G : jG} {X : jX} (C : jC G X cX2_freshen 2 RX2 12 378) {h : Hp} {out : Hp} (O : (O_Locks_freshen G X) out) (hm : s_Locks_freshen h = some out) : J G X 0 [(0, .ref (G.1 + 69))] [] h := by
  unfold s_Locks_freshen at hm
  refine j_aload_n C 0 dX2_freshen_0 rfl rfl ?_
  refine j_gZ C f_X2_31 n_69 dX2_freshen_1 ?_
  refine j_ifeq C 8 dX2_freshen_4 (by decide) hm (fun hm => ?_) (fun hm => ?_)
  · refine j_aload_n C 0 dX2_freshen_8 rfl rfl ?_
    refine j_gR C f_X2_9 n_69 q_69_2 dX2_freshen_9 ?_
    rcases nq_inv hm with ⟨c2, hm⟩ | ⟨r1, c2, hm⟩
    · rw [c2]
      refine j_ifnonnullN C dX2_freshen_12 ?_
      refine j_aload_n C 0 dX2_freshen_15 rfl rfl ?_
      refine j_gS C f_X2_35 n_69 q_69_0 dX2_freshen_16 ?_
      refine j_gI C f_X2_43 n_1 dX2_freshen_19 ?_
      refine j_ifle C 34 dX2_freshen_22 (by decide) hm (fun hm => ?_) (fun hm => ?_)
      · refine j_sub (L' := [(0, .ref (G.1 + 69))]) [0] rfl ?_
        exact w_Locks_freshen_34 C O hm
      · refine j_aload_n C 0 dX2_freshen_25 rfl rfl ?_
        refine j_sipush C 8640 dX2_freshen_26 (by decide) ?_
        refine j_newaI C hm wd_255 dX2_freshen_29 (fun hm => ?_)
        refine j_pR C (o := (some (nid h))) f_X2_9 n_69 q_69_2 dX2_freshen_31 ?_
        refine j_sub (L' := [(0, .ref (G.1 + 69))]) [0] rfl ?_
        exact w_Locks_freshen_34 C O hm
    · rw [c2]
      refine j_ifnonnull C 34 dX2_freshen_12 (by decide) ?_
      refine j_sub (L' := [(0, .ref (G.1 + 69))]) [0] rfl ?_
      exact w_Locks_freshen_34 C O hm
  · obtain rfl := Option.some.inj hm
    exact j_vret C O dX2_freshen_7
theorem c_Locks_freshen {G : jG} {l : Launch} {h : Hp} {out : Hp} (hm : s_Locks_freshen h = some out) : mt G l yX2_freshen cX2_freshen 2 (none) 12 378 [.ref (G.1 + 69)] h none out :=
  mt_of (by decide) (Nat.le_of_ble_eq_true rfl) _ rfl (fun X I C O => w_Locks_freshen C O hm)
noncomputable def s_Mod_lies_15 (s0 : Int32) (h : Hp) : Option Int32 :=
  bz s0 <| some (s0)
noncomputable def s_Mod_lies_14 (h : Hp) : Option Int32 :=
  s_Mod_lies_15 ((0 : Int32)) h
noncomputable def s_Mod_lies (v0 : Int32) (v1 : Int32) (v2 : Int32) (h : Hp) : Option Int32 :=
  if v0 < v1 then
    s_Mod_lies_14 h
  else
    if v2 < v0 then
      s_Mod_lies_14 h
    else
      s_Mod_lies_15 ((1 : Int32)) h
def O_Mod_lies (G : jG) (X : jX) (h : Hp) (out : Int32) : Prop := jO G X (some .boolean) (some (.int out)) h
theorem w_Mod_lies_15 {G : jG} {X : jX} (C : jC G X cX12_lies 3 RX12 1 70) {s0 : Int32} {h : Hp} {out : Int32} (O : (O_Mod_lies G X h) out) (hm : s_Mod_lies_15 s0 h = some out) : J G X 15 [] [.int s0] h := by
  unfold s_Mod_lies_15 at hm
  obtain ⟨cz, hm⟩ := bz_inv hm
  obtain rfl := Option.some.inj hm
  exact j_zret C O cz dX12_lies_15
theorem w_Mod_lies_14 {G : jG} {X : jX} (C : jC G X cX12_lies 3 RX12 1 70) {h : Hp} {out : Int32} (O : (O_Mod_lies G X h) out) (hm : s_Mod_lies_14 h = some out) : J G X 14 [] [] h := by
  unfold s_Mod_lies_14 at hm
  refine j_iconst C 0 dX12_lies_14 (by decide) ?_
  refine j_sub (L' := []) [] rfl ?_
  exact w_Mod_lies_15 C O hm
theorem w_Mod_lies {G : jG} {X : jX} (C : jC G X cX12_lies 3 RX12 1 70) {v0 : Int32} {v1 : Int32} {v2 : Int32} {h : Hp} {out : Int32} (O : (O_Mod_lies G X h) out) (hm : s_Mod_lies v0 v1 v2 h = some out) : J G X 0 [(0, .int v0), (1, .int v1), (2, .int v2)] [] h := by
  unfold s_Mod_lies at hm
  refine j_iload_n C 0 dX12_lies_0 rfl rfl ?_
  refine j_iload_n C 1 dX12_lies_1 rfl rfl ?_
  refine j_if_icmplt C 14 dX12_lies_2 (by decide) hm (fun hm => ?_) (fun hm => ?_)
  · refine j_sub (L' := []) [] rfl ?_
    exact w_Mod_lies_14 C O hm
  · refine j_iload_n C 0 dX12_lies_5 rfl rfl ?_
    refine j_iload_n C 2 dX12_lies_6 rfl rfl ?_
    refine j_if_icmpgt C 14 dX12_lies_7 (by decide) hm (fun hm => ?_) (fun hm => ?_)
    · refine j_sub (L' := []) [] rfl ?_
      exact w_Mod_lies_14 C O hm
    · refine j_iconst C 1 dX12_lies_10 (by decide) ?_
      refine j_goto C 15 dX12_lies_11 (by decide) ?_
      refine j_sub (L' := []) [] rfl ?_
      exact w_Mod_lies_15 C O hm
theorem c_Mod_lies {G : jG} {l : Launch} {v0 : Int32} {v1 : Int32} {v2 : Int32} {h : Hp} {out : Int32} (hm : s_Mod_lies v0 v1 v2 h = some out) : mt G l yX12_lies cX12_lies 3 (some .boolean) 1 70 [.int v0, .int v1, .int v2] h (some (.int out)) h :=
  mt_of (by decide) (Nat.le_of_ble_eq_true rfl) _ rfl (fun X I C O => w_Mod_lies C O hm)
noncomputable def s_Mod_isEnd (v0 : Int32) (h : Hp) : Option Int32 :=
  (s_Mod_lies v0 ((0 : Int32)) ((1 : Int32)) h).bind fun u1 => bz u1 <| some (u1)
def O_Mod_isEnd (G : jG) (X : jX) (h : Hp) (out : Int32) : Prop := jO G X (some .boolean) (some (.int out)) h
theorem w_Mod_isEnd {G : jG} {X : jX} (C : jC G X cX12_isEnd 1 RX12 2 92) {v0 : Int32} {h : Hp} {out : Int32} (O : (O_Mod_isEnd G X h) out) (hm : s_Mod_isEnd v0 h = some out) : J G X 0 [(0, .int v0)] [] h := by
  unfold s_Mod_isEnd at hm
  refine j_iload_n C 0 dX12_isEnd_0 rfl rfl ?_
  refine j_iconst C 0 dX12_isEnd_1 (by decide) ?_
  refine j_iconst C 1 dX12_isEnd_2 (by decide) ?_
  refine j_cS C l_X12_113 [.int v0, .int ((0 : Int32)), .int ((1 : Int32))] [] (fun u1 => some (.int u1)) (fun _ => h) (fun u1 => [.int u1]) hm (fun l u hu => c_Mod_lies hu) rfl (Nat.le_of_ble_eq_true rfl) rfl (Nat.le_of_ble_eq_true rfl) (Nat.le_of_ble_eq_true rfl) (fun _ => rfl) dX12_isEnd_3 (fun u1 hm => ?_)
  obtain ⟨cz, hm⟩ := bz_inv hm
  obtain rfl := Option.some.inj hm
  exact j_zret C O cz dX12_isEnd_6
theorem c_Mod_isEnd {G : jG} {l : Launch} {v0 : Int32} {h : Hp} {out : Int32} (hm : s_Mod_isEnd v0 h = some out) : mt G l yX12_isEnd cX12_isEnd 1 (some .boolean) 2 92 [.int v0] h (some (.int out)) h :=
  mt_of (by decide) (Nat.le_of_ble_eq_true rfl) _ rfl (fun X I C O => w_Mod_isEnd C O hm)
noncomputable def s_Mod_isMinute (v0 : Int32) (h : Hp) : Option Int32 :=
  (s_Mod_lies v0 ((0 : Int32)) ((1439 : Int32)) h).bind fun u1 => bz u1 <| some (u1)
def O_Mod_isMinute (G : jG) (X : jX) (h : Hp) (out : Int32) : Prop := jO G X (some .boolean) (some (.int out)) h
theorem w_Mod_isMinute {G : jG} {X : jX} (C : jC G X cX12_isMinute 1 RX12 2 92) {v0 : Int32} {h : Hp} {out : Int32} (O : (O_Mod_isMinute G X h) out) (hm : s_Mod_isMinute v0 h = some out) : J G X 0 [(0, .int v0)] [] h := by
  unfold s_Mod_isMinute at hm
  refine j_iload_n C 0 dX12_isMinute_0 rfl rfl ?_
  refine j_iconst C 0 dX12_isMinute_1 (by decide) ?_
  refine j_sipush C 1439 dX12_isMinute_2 (by decide) ?_
  refine j_cS C l_X12_113 [.int v0, .int ((0 : Int32)), .int ((1439 : Int32))] [] (fun u1 => some (.int u1)) (fun _ => h) (fun u1 => [.int u1]) hm (fun l u hu => c_Mod_lies hu) rfl (Nat.le_of_ble_eq_true rfl) rfl (Nat.le_of_ble_eq_true rfl) (Nat.le_of_ble_eq_true rfl) (fun _ => rfl) dX12_isMinute_5 (fun u1 hm => ?_)
  obtain ⟨cz, hm⟩ := bz_inv hm
  obtain rfl := Option.some.inj hm
  exact j_zret C O cz dX12_isMinute_8
theorem c_Mod_isMinute {G : jG} {l : Launch} {v0 : Int32} {h : Hp} {out : Int32} (hm : s_Mod_isMinute v0 h = some out) : mt G l yX12_isMinute cX12_isMinute 1 (some .boolean) 2 92 [.int v0] h (some (.int out)) h :=
  mt_of (by decide) (Nat.le_of_ble_eq_true rfl) _ rfl (fun X I C O => w_Mod_isMinute C O hm)
noncomputable def s_Mod_wave_45 (s0 : Int32) (h : Hp) : Option Int32 :=
  some (s0)
noncomputable def s_Mod_wave (v0 : Int32) (v1 : Int32) (h : Hp) : Option Int32 :=
  cn v1 <| if ((2000 : Int32)) < ((((4000 : Int32)) * v0) / v1) then
    s_Mod_wave_45 (-(((((((4000 : Int32)) * v0) / v1) - ((2000 : Int32))) * (((4000 : Int32)) - ((((4000 : Int32)) * v0) / v1))) / ((1000 : Int32)))) h
  else
    s_Mod_wave_45 ((((((4000 : Int32)) * v0) / v1) * (((2000 : Int32)) - ((((4000 : Int32)) * v0) / v1))) / ((1000 : Int32))) h
def O_Mod_wave (G : jG) (X : jX) (h : Hp) (out : Int32) : Prop := jO G X (some .int) (some (.int out)) h
theorem w_Mod_wave_45 {G : jG} {X : jX} (C : jC G X cX12_wave 3 RX12 1 70) {s0 : Int32} {h : Hp} {out : Int32} (O : (O_Mod_wave G X h) out) (hm : s_Mod_wave_45 s0 h = some out) : J G X 45 [] [.int s0] h := by
  unfold s_Mod_wave_45 at hm
  obtain rfl := Option.some.inj hm
  exact j_iret C O dX12_wave_45
theorem w_Mod_wave {G : jG} {X : jX} (C : jC G X cX12_wave 3 RX12 1 70) {v0 : Int32} {v1 : Int32} {h : Hp} {out : Int32} (O : (O_Mod_wave G X h) out) (hm : s_Mod_wave v0 v1 h = some out) : J G X 0 [(0, .int v0), (1, .int v1)] [] h := by
  unfold s_Mod_wave at hm
  refine j_sipush C 4000 dX12_wave_0 (by decide) ?_
  refine j_iload_n C 0 dX12_wave_3 rfl rfl ?_
  refine j_imul C dX12_wave_4 ?_
  refine j_iload_n C 1 dX12_wave_5 rfl rfl ?_
  obtain ⟨c1, hm⟩ := cn_inv hm
  refine j_idiv C dX12_wave_6 c1 ?_
  refine j_istore_n C [(2, .int ((((4000 : Int32)) * v0) / v1)), (0, .int v0), (1, .int v1)] dX12_wave_7 rfl (by decide) rfl ?_
  refine j_iload_n C 0 dX12_wave_8 rfl rfl ?_
  refine j_sipush C 2000 dX12_wave_9 (by decide) ?_
  refine j_if_icmpgt C 29 dX12_wave_12 (by decide) hm (fun hm => ?_) (fun hm => ?_)
  · refine j_iload_n C 0 dX12_wave_29 rfl rfl ?_
    refine j_sipush C 2000 dX12_wave_30 (by decide) ?_
    refine j_isub C dX12_wave_33 ?_
    refine j_sipush C 4000 dX12_wave_34 (by decide) ?_
    refine j_iload_n C 0 dX12_wave_37 rfl rfl ?_
    refine j_isub C dX12_wave_38 ?_
    refine j_imul C dX12_wave_39 ?_
    refine j_sipush C 1000 dX12_wave_40 (by decide) ?_
    refine j_idiv C dX12_wave_43 (by decide) ?_
    refine j_ineg C dX12_wave_44 ?_
    refine j_sub (L' := []) [] rfl ?_
    exact w_Mod_wave_45 C O hm
  · refine j_iload_n C 0 dX12_wave_15 rfl rfl ?_
    refine j_sipush C 2000 dX12_wave_16 (by decide) ?_
    refine j_iload_n C 0 dX12_wave_19 rfl rfl ?_
    refine j_isub C dX12_wave_20 ?_
    refine j_imul C dX12_wave_21 ?_
    refine j_sipush C 1000 dX12_wave_22 (by decide) ?_
    refine j_idiv C dX12_wave_25 (by decide) ?_
    refine j_goto C 45 dX12_wave_26 (by decide) ?_
    refine j_sub (L' := []) [] rfl ?_
    exact w_Mod_wave_45 C O hm
theorem c_Mod_wave {G : jG} {l : Launch} {v0 : Int32} {v1 : Int32} {h : Hp} {out : Int32} (hm : s_Mod_wave v0 v1 h = some out) : mt G l yX12_wave cX12_wave 3 (some .int) 1 70 [.int v0, .int v1] h (some (.int out)) h :=
  mt_of (by decide) (Nat.le_of_ble_eq_true rfl) _ rfl (fun X I C O => w_Mod_wave C O hm)
noncomputable def s_Mod_moonAt (v0 : Int32) (v1 : Int32) (v2 : Int32) (v3 : Int32) (h : Hp) : Option Int32 :=
  cn v1 <| (s_Mod_wave (z_rem (v3 + v2) v1) v1 h).bind fun u2 => some ((v0 * u2) / ((1000 : Int32)))
def O_Mod_moonAt (G : jG) (X : jX) (h : Hp) (out : Int32) : Prop := jO G X (some .int) (some (.int out)) h
theorem w_Mod_moonAt {G : jG} {X : jX} (C : jC G X cX12_moonAt 4 RX12 2 92) {v0 : Int32} {v1 : Int32} {v2 : Int32} {v3 : Int32} {h : Hp} {out : Int32} (O : (O_Mod_moonAt G X h) out) (hm : s_Mod_moonAt v0 v1 v2 v3 h = some out) : J G X 0 [(0, .int v0), (1, .int v1), (2, .int v2), (3, .int v3)] [] h := by
  unfold s_Mod_moonAt at hm
  refine j_iload_n C 0 dX12_moonAt_0 rfl rfl ?_
  refine j_iload_n C 3 dX12_moonAt_1 rfl rfl ?_
  refine j_iload_n C 2 dX12_moonAt_2 rfl rfl ?_
  refine j_iadd C dX12_moonAt_3 ?_
  refine j_iload_n C 1 dX12_moonAt_4 rfl rfl ?_
  obtain ⟨c1, hm⟩ := cn_inv hm
  refine j_irem C dX12_moonAt_5 c1 ?_
  refine j_iload_n C 1 dX12_moonAt_6 rfl rfl ?_
  refine j_cS C l_X12_269 [.int (z_rem (v3 + v2) v1), .int v1] [.int v0] (fun u2 => some (.int u2)) (fun _ => h) (fun u2 => [.int u2, .int v0]) hm (fun l u hu => c_Mod_wave hu) rfl (Nat.le_of_ble_eq_true rfl) rfl (Nat.le_of_ble_eq_true rfl) (Nat.le_of_ble_eq_true rfl) (fun _ => rfl) dX12_moonAt_7 (fun u2 hm => ?_)
  refine j_imul C dX12_moonAt_10 ?_
  refine j_sipush C 1000 dX12_moonAt_11 (by decide) ?_
  refine j_idiv C dX12_moonAt_14 (by decide) ?_
  obtain rfl := Option.some.inj hm
  exact j_iret C O dX12_moonAt_15
theorem c_Mod_moonAt {G : jG} {l : Launch} {v0 : Int32} {v1 : Int32} {v2 : Int32} {v3 : Int32} {h : Hp} {out : Int32} (hm : s_Mod_moonAt v0 v1 v2 v3 h = some out) : mt G l yX12_moonAt cX12_moonAt 4 (some .int) 2 92 [.int v0, .int v1, .int v2, .int v3] h (some (.int out)) h :=
  mt_of (by decide) (Nat.le_of_ble_eq_true rfl) _ rfl (fun X I C O => w_Mod_moonAt C O hm)
noncomputable def s_Mod_moonOf (v1 : Int32) (v2 : Int32) (v3 : Int32) (h : Hp) : Option Int32 :=
  ib (((((6 : Int32)) + (((12 : Int32)) * v1)) + (((3 : Int32)) * v2)) + v3) 4998 <| some (hI h 86 (ix (((((6 : Int32)) + (((12 : Int32)) * v1)) + (((3 : Int32)) * v2)) + v3)))
def O_Mod_moonOf (G : jG) (X : jX) (h : Hp) (out : Int32) : Prop := jO G X (some .int) (some (.int out)) h
theorem w_Mod_moonOf {G : jG} {X : jX} (C : jC G X cX12_moonOf 4 RX12 1 70) {v1 : Int32} {v2 : Int32} {v3 : Int32} {h : Hp} {out : Int32} (O : (O_Mod_moonOf G X h) out) (hm : s_Mod_moonOf v1 v2 v3 h = some out) : J G X 0 [(0, .ref (G.1 + 84)), (1, .int v1), (2, .int v2), (3, .int v3)] [] h := by
  unfold s_Mod_moonOf at hm
  refine j_aload_n C 0 dX12_moonOf_0 rfl rfl ?_
  refine j_gS C f_X12_20 n_84 q_84_3 dX12_moonOf_1 ?_
  refine j_bipush C 6 dX12_moonOf_4 (by decide) ?_
  refine j_bipush C 12 dX12_moonOf_6 (by decide) ?_
  refine j_iload_n C 1 dX12_moonOf_8 rfl rfl ?_
  refine j_imul C dX12_moonOf_9 ?_
  refine j_iadd C dX12_moonOf_10 ?_
  refine j_iconst C 3 dX12_moonOf_11 (by decide) ?_
  refine j_iload_n C 2 dX12_moonOf_12 rfl rfl ?_
  refine j_imul C dX12_moonOf_13 ?_
  refine j_iadd C dX12_moonOf_14 ?_
  refine j_iload_n C 3 dX12_moonOf_15 rfl rfl ?_
  refine j_iadd C dX12_moonOf_16 ?_
  refine j_iald C n_86 hm dX12_moonOf_17 (fun hm => ?_)
  obtain rfl := Option.some.inj hm
  exact j_iret C O dX12_moonOf_18
theorem c_Mod_moonOf {G : jG} {l : Launch} {v1 : Int32} {v2 : Int32} {v3 : Int32} {h : Hp} {out : Int32} (hm : s_Mod_moonOf v1 v2 v3 h = some out) : mt G l yX12_moonOf cX12_moonOf 4 (some .int) 1 70 [.ref (G.1 + 84), .int v1, .int v2, .int v3] h (some (.int out)) h :=
  mt_of (by decide) (Nat.le_of_ble_eq_true rfl) _ rfl (fun X I C O => w_Mod_moonOf C O hm)
noncomputable def s_Mod_levelOf_15 (v1 : Int32) (v2 : Int32) (v3 : Int32) (v4 : Int32) (v5 : Int32) (v6 : Int32) (h : Hp) : Option ((Int32 × Int32 × Int32 × Int32 × Int32 × Int32) ⊕ Int32) :=
  if ((4 : Int32)) ≤ v6 then
    ib ((((0 : Int32)) + (((3 : Int32)) * v1)) + ((1 : Int32))) 4998 <| ib ((((0 : Int32)) + (((3 : Int32)) * v1)) + ((2 : Int32))) 4998 <| some (.inr ((v5 + ((hI h 86 (ix ((((0 : Int32)) + (((3 : Int32)) * v1)) + ((1 : Int32))))) * (((1013 : Int32)) - v4))) + ((hI h 86 (ix ((((0 : Int32)) + (((3 : Int32)) * v1)) + ((2 : Int32))))) * v3)))
  else
    (s_Mod_moonOf v1 v6 ((0 : Int32)) h).bind fun u1 => (s_Mod_moonOf v1 v6 ((1 : Int32)) h).bind fun u2 => (s_Mod_moonOf v1 v6 ((2 : Int32)) h).bind fun u3 => (s_Mod_moonAt u1 u2 u3 v2 h).bind fun u4 => some (.inl (v1, v2, v3, v4, (v5 + u4), (v6 + (1 : Int32))))
noncomputable def s_Mod_levelOf (v1 : Int32) (v2 : Int32) (v3 : Int32) (v4 : Int32) (h : Hp) : Option Int32 :=
  ib (((0 : Int32)) + (((3 : Int32)) * v1)) 4998 <| lt (hI h 86 (ix (((0 : Int32)) + (((3 : Int32)) * v1)))) fun x1 => lp (fun q => s_Mod_levelOf_15 q.1 q.2.1 q.2.2.1 q.2.2.2.1 q.2.2.2.2.1 q.2.2.2.2.2 h) (v1, v2, v3, v4, x1, ((0 : Int32)))
def O_Mod_levelOf (G : jG) (X : jX) (h : Hp) (out : Int32) : Prop := jO G X (some .int) (some (.int out)) h
def P_Mod_levelOf_15 (G : jG) (X : jX) (h : Hp) (q : Int32 × Int32 × Int32 × Int32 × Int32 × Int32) : Prop := J G X 15 [(0, .ref (G.1 + 84)), (1, .int q.1), (2, .int q.2.1), (3, .int q.2.2.1), (4, .int q.2.2.2.1), (5, .int q.2.2.2.2.1), (6, .int q.2.2.2.2.2)] [] h
def O_Mod_levelOf_15 (G : jG) (X : jX) (h : Hp) (t : ((Int32 × Int32 × Int32 × Int32 × Int32 × Int32) ⊕ Int32)) : Prop := Sum.elim (P_Mod_levelOf_15 G X h) (O_Mod_levelOf G X h) t
theorem w_Mod_levelOf_15 {G : jG} {X : jX} (C : jC G X cX12_levelOf 7 RX12 3 115) {v1 : Int32} {v2 : Int32} {v3 : Int32} {v4 : Int32} {v5 : Int32} {v6 : Int32} {h : Hp} {out : ((Int32 × Int32 × Int32 × Int32 × Int32 × Int32) ⊕ Int32)} (O : (O_Mod_levelOf_15 G X h) out) (hm : s_Mod_levelOf_15 v1 v2 v3 v4 v5 v6 h = some out) : J G X 15 [(0, .ref (G.1 + 84)), (1, .int v1), (2, .int v2), (3, .int v3), (4, .int v4), (5, .int v5), (6, .int v6)] [] h := by
  unfold s_Mod_levelOf_15 at hm
  refine j_iload C 6 dX12_levelOf_15 rfl ?_
  refine j_iconst C 4 dX12_levelOf_17 (by decide) ?_
  refine j_if_icmpge C 60 dX12_levelOf_18 (by decide) hm (fun hm => ?_) (fun hm => ?_)
  · refine j_iload C 5 dX12_levelOf_60 rfl ?_
    refine j_aload_n C 0 dX12_levelOf_62 rfl rfl ?_
    refine j_gS C f_X12_20 n_84 q_84_3 dX12_levelOf_63 ?_
    refine j_iconst C 0 dX12_levelOf_66 (by decide) ?_
    refine j_iconst C 3 dX12_levelOf_67 (by decide) ?_
    refine j_iload_n C 1 dX12_levelOf_68 rfl rfl ?_
    refine j_imul C dX12_levelOf_69 ?_
    refine j_iadd C dX12_levelOf_70 ?_
    refine j_iconst C 1 dX12_levelOf_71 (by decide) ?_
    refine j_iadd C dX12_levelOf_72 ?_
    refine j_iald C n_86 hm dX12_levelOf_73 (fun hm => ?_)
    refine j_sipush C 1013 dX12_levelOf_74 (by decide) ?_
    refine j_iload C 4 dX12_levelOf_77 rfl ?_
    refine j_isub C dX12_levelOf_79 ?_
    refine j_imul C dX12_levelOf_80 ?_
    refine j_iadd C dX12_levelOf_81 ?_
    refine j_aload_n C 0 dX12_levelOf_82 rfl rfl ?_
    refine j_gS C f_X12_20 n_84 q_84_3 dX12_levelOf_83 ?_
    refine j_iconst C 0 dX12_levelOf_86 (by decide) ?_
    refine j_iconst C 3 dX12_levelOf_87 (by decide) ?_
    refine j_iload_n C 1 dX12_levelOf_88 rfl rfl ?_
    refine j_imul C dX12_levelOf_89 ?_
    refine j_iadd C dX12_levelOf_90 ?_
    refine j_iconst C 2 dX12_levelOf_91 (by decide) ?_
    refine j_iadd C dX12_levelOf_92 ?_
    refine j_iald C n_86 hm dX12_levelOf_93 (fun hm => ?_)
    refine j_iload_n C 3 dX12_levelOf_94 rfl rfl ?_
    refine j_imul C dX12_levelOf_95 ?_
    refine j_iadd C dX12_levelOf_96 ?_
    obtain rfl := Option.some.inj hm
    exact j_iret C O dX12_levelOf_97
  · refine j_iload C 5 dX12_levelOf_21 rfl ?_
    refine j_aload_n C 0 dX12_levelOf_23 rfl rfl ?_
    refine j_iload_n C 1 dX12_levelOf_24 rfl rfl ?_
    refine j_iload C 6 dX12_levelOf_25 rfl ?_
    refine j_iconst C 0 dX12_levelOf_27 (by decide) ?_
    refine j_cV C l_X12_272 [.int v1, .int v6, .int ((0 : Int32))] [.int v5] (fun u1 => some (.int u1)) (fun _ => h) (fun u1 => [.int u1, .int v5]) n_84 hm (fun l u hu => c_Mod_moonOf hu) rfl (Nat.le_of_ble_eq_true rfl) rfl (Nat.le_of_ble_eq_true rfl) (Nat.le_of_ble_eq_true rfl) (fun _ => rfl) dX12_levelOf_28 (fun u1 hm => ?_)
    refine j_aload_n C 0 dX12_levelOf_31 rfl rfl ?_
    refine j_iload_n C 1 dX12_levelOf_32 rfl rfl ?_
    refine j_iload C 6 dX12_levelOf_33 rfl ?_
    refine j_iconst C 1 dX12_levelOf_35 (by decide) ?_
    refine j_cV C l_X12_272 [.int v1, .int v6, .int ((1 : Int32))] [.int u1, .int v5] (fun u2 => some (.int u2)) (fun _ => h) (fun u2 => [.int u2, .int u1, .int v5]) n_84 hm (fun l u hu => c_Mod_moonOf hu) rfl (Nat.le_of_ble_eq_true rfl) rfl (Nat.le_of_ble_eq_true rfl) (Nat.le_of_ble_eq_true rfl) (fun _ => rfl) dX12_levelOf_36 (fun u2 hm => ?_)
    refine j_aload_n C 0 dX12_levelOf_39 rfl rfl ?_
    refine j_iload_n C 1 dX12_levelOf_40 rfl rfl ?_
    refine j_iload C 6 dX12_levelOf_41 rfl ?_
    refine j_iconst C 2 dX12_levelOf_43 (by decide) ?_
    refine j_cV C l_X12_272 [.int v1, .int v6, .int ((2 : Int32))] [.int u2, .int u1, .int v5] (fun u3 => some (.int u3)) (fun _ => h) (fun u3 => [.int u3, .int u2, .int u1, .int v5]) n_84 hm (fun l u hu => c_Mod_moonOf hu) rfl (Nat.le_of_ble_eq_true rfl) rfl (Nat.le_of_ble_eq_true rfl) (Nat.le_of_ble_eq_true rfl) (fun _ => rfl) dX12_levelOf_44 (fun u3 hm => ?_)
    refine j_iload_n C 2 dX12_levelOf_47 rfl rfl ?_
    refine j_cS C l_X12_276 [.int u1, .int u2, .int u3, .int v2] [.int v5] (fun u4 => some (.int u4)) (fun _ => h) (fun u4 => [.int u4, .int v5]) hm (fun l u hu => c_Mod_moonAt hu) rfl (Nat.le_of_ble_eq_true rfl) rfl (Nat.le_of_ble_eq_true rfl) (Nat.le_of_ble_eq_true rfl) (fun _ => rfl) dX12_levelOf_48 (fun u4 hm => ?_)
    refine j_iadd C dX12_levelOf_51 ?_
    refine j_istore C [(5, .int (v5 + u4)), (0, .ref (G.1 + 84)), (1, .int v1), (2, .int v2), (3, .int v3), (4, .int v4), (6, .int v6)] dX12_levelOf_52 (by decide) rfl ?_
    refine j_iinc C 6 [(6, .int (v6 + (1 : Int32))), (5, .int (v5 + u4)), (0, .ref (G.1 + 84)), (1, .int v1), (2, .int v2), (3, .int v3), (4, .int v4)] dX12_levelOf_54 rfl (add_lit (by decide)) (by decide) rfl ?_
    refine j_goto C 15 dX12_levelOf_57 (by decide) ?_
    obtain rfl := Option.some.inj hm
    refine j_sub (L' := [(0, .ref (G.1 + 84)), (1, .int v1), (2, .int v2), (3, .int v3), (4, .int v4), (5, .int (v5 + u4)), (6, .int (v6 + (1 : Int32)))]) [2, 3, 4, 5, 6, 1, 0] rfl ?_
    exact O
theorem k_Mod_levelOf_15 {G : jG} {X : jX} (C : jC G X cX12_levelOf 7 RX12 3 115) {v1 : Int32} {v2 : Int32} {v3 : Int32} {v4 : Int32} {v5 : Int32} {v6 : Int32} {h : Hp} {out : Int32} (O : (O_Mod_levelOf G X h) out) (hm : lp (fun q => s_Mod_levelOf_15 q.1 q.2.1 q.2.2.1 q.2.2.2.1 q.2.2.2.2.1 q.2.2.2.2.2 h) (v1, v2, v3, v4, v5, v6) = some out) : J G X 15 [(0, .ref (G.1 + 84)), (1, .int v1), (2, .int v2), (3, .int v3), (4, .int v4), (5, .int v5), (6, .int v6)] [] h :=
  lp_ok (P := P_Mod_levelOf_15 G X h) (O := (O_Mod_levelOf G X h)) (fun q r hm O => w_Mod_levelOf_15 C O hm) hm O
theorem w_Mod_levelOf {G : jG} {X : jX} (C : jC G X cX12_levelOf 7 RX12 3 115) {v1 : Int32} {v2 : Int32} {v3 : Int32} {v4 : Int32} {h : Hp} {out : Int32} (O : (O_Mod_levelOf G X h) out) (hm : s_Mod_levelOf v1 v2 v3 v4 h = some out) : J G X 0 [(0, .ref (G.1 + 84)), (1, .int v1), (2, .int v2), (3, .int v3), (4, .int v4)] [] h := by
  unfold s_Mod_levelOf at hm
  refine j_aload_n C 0 dX12_levelOf_0 rfl rfl ?_
  refine j_gS C f_X12_20 n_84 q_84_3 dX12_levelOf_1 ?_
  refine j_iconst C 0 dX12_levelOf_4 (by decide) ?_
  refine j_iconst C 3 dX12_levelOf_5 (by decide) ?_
  refine j_iload_n C 1 dX12_levelOf_6 rfl rfl ?_
  refine j_imul C dX12_levelOf_7 ?_
  refine j_iadd C dX12_levelOf_8 ?_
  refine j_iald C n_86 hm dX12_levelOf_9 (fun hm => ?_)
  refine j_nmI hm (fun x1 hm => ?_)
  refine j_istore C [(5, .int x1), (0, .ref (G.1 + 84)), (1, .int v1), (2, .int v2), (3, .int v3), (4, .int v4)] dX12_levelOf_10 (by decide) rfl ?_
  refine j_iconst C 0 dX12_levelOf_12 (by decide) ?_
  refine j_istore C [(6, .int ((0 : Int32))), (5, .int x1), (0, .ref (G.1 + 84)), (1, .int v1), (2, .int v2), (3, .int v3), (4, .int v4)] dX12_levelOf_13 (by decide) rfl ?_
  refine j_sub (L' := [(0, .ref (G.1 + 84)), (1, .int v1), (2, .int v2), (3, .int v3), (4, .int v4), (5, .int x1), (6, .int ((0 : Int32)))]) [2, 3, 4, 5, 6, 1, 0] rfl ?_
  exact k_Mod_levelOf_15 C O hm
theorem c_Mod_levelOf {G : jG} {l : Launch} {v1 : Int32} {v2 : Int32} {v3 : Int32} {v4 : Int32} {h : Hp} {out : Int32} (hm : s_Mod_levelOf v1 v2 v3 v4 h = some out) : mt G l yX12_levelOf cX12_levelOf 7 (some .int) 3 115 [.ref (G.1 + 84), .int v1, .int v2, .int v3, .int v4] h (some (.int out)) h :=
  mt_of (by decide) (Nat.le_of_ble_eq_true rfl) _ rfl (fun X I C O => w_Mod_levelOf C O hm)
noncomputable def s_Mod_term (v1 : Int32) (h : Hp) : Option Int32 :=
  ib (((30 : Int32)) + v1) 4998 <| some (hI h 86 (ix (((30 : Int32)) + v1)))
def O_Mod_term (G : jG) (X : jX) (h : Hp) (out : Int32) : Prop := jO G X (some .int) (some (.int out)) h
theorem w_Mod_term {G : jG} {X : jX} (C : jC G X cX12_term 2 RX12 1 70) {v1 : Int32} {h : Hp} {out : Int32} (O : (O_Mod_term G X h) out) (hm : s_Mod_term v1 h = some out) : J G X 0 [(0, .ref (G.1 + 84)), (1, .int v1)] [] h := by
  unfold s_Mod_term at hm
  refine j_aload_n C 0 dX12_term_0 rfl rfl ?_
  refine j_gS C f_X12_20 n_84 q_84_3 dX12_term_1 ?_
  refine j_bipush C 30 dX12_term_4 (by decide) ?_
  refine j_iload_n C 1 dX12_term_6 rfl rfl ?_
  refine j_iadd C dX12_term_7 ?_
  refine j_iald C n_86 hm dX12_term_8 (fun hm => ?_)
  obtain rfl := Option.some.inj hm
  exact j_iret C O dX12_term_9
theorem c_Mod_term {G : jG} {l : Launch} {v1 : Int32} {h : Hp} {out : Int32} (hm : s_Mod_term v1 h = some out) : mt G l yX12_term cX12_term 2 (some .int) 1 70 [.ref (G.1 + 84), .int v1] h (some (.int out)) h :=
  mt_of (by decide) (Nat.le_of_ble_eq_true rfl) _ rfl (fun X I C O => w_Mod_term C O hm)
noncomputable def s_Mod_level_38 (s0 : Int32) (h : Hp) : Option Int32 :=
  some (s0)
noncomputable def s_Mod_level_35 (h : Hp) : Option Int32 :=
  s_Mod_level_38 ((-100000 : Int32)) h
noncomputable def s_Mod_level (v1 : Int32) (v2 : Int32) (h : Hp) : Option Int32 :=
  (s_Mod_isEnd v1 h).bind fun u1 => if u1 = 0 then
    s_Mod_level_35 h
  else
    (s_Mod_isMinute v2 h).bind fun u2 => if u2 = 0 then
      s_Mod_level_35 h
    else
      (s_Mod_term ((9 : Int32)) h).bind fun u3 => (s_Mod_term ((10 : Int32)) h).bind fun u4 => (s_Mod_levelOf v1 v2 u3 u4 h).bind fun u5 => s_Mod_level_38 u5 h
def O_Mod_level (G : jG) (X : jX) (h : Hp) (out : Int32) : Prop := jO G X (some .int) (some (.int out)) h
theorem w_Mod_level_38 {G : jG} {X : jX} (C : jC G X cX12_level 3 RX12 4 141) {s0 : Int32} {h : Hp} {out : Int32} (O : (O_Mod_level G X h) out) (hm : s_Mod_level_38 s0 h = some out) : J G X 38 [] [.int s0] h := by
  unfold s_Mod_level_38 at hm
  obtain rfl := Option.some.inj hm
  exact j_iret C O dX12_level_38
theorem w_Mod_level_35 {G : jG} {X : jX} (C : jC G X cX12_level 3 RX12 4 141) {h : Hp} {out : Int32} (O : (O_Mod_level G X h) out) (hm : s_Mod_level_35 h = some out) : J G X 35 [] [] h := by
  unfold s_Mod_level_35 at hm
  refine j_ldc_w C wd_1649 dX12_level_35 ?_
  refine j_sub (L' := []) [] rfl ?_
  exact w_Mod_level_38 C O hm
theorem w_Mod_level {G : jG} {X : jX} (C : jC G X cX12_level 3 RX12 4 141) {v1 : Int32} {v2 : Int32} {h : Hp} {out : Int32} (O : (O_Mod_level G X h) out) (hm : s_Mod_level v1 v2 h = some out) : J G X 0 [(0, .ref (G.1 + 84)), (1, .int v1), (2, .int v2)] [] h := by
  unfold s_Mod_level at hm
  refine j_iload_n C 1 dX12_level_0 rfl rfl ?_
  refine j_cS C l_X12_124 [.int v1] [] (fun u1 => some (.int u1)) (fun _ => h) (fun u1 => [.int u1]) hm (fun l u hu => c_Mod_isEnd hu) rfl (Nat.le_of_ble_eq_true rfl) rfl (Nat.le_of_ble_eq_true rfl) (Nat.le_of_ble_eq_true rfl) (fun _ => rfl) dX12_level_1 (fun u1 hm => ?_)
  refine j_ifeq C 35 dX12_level_4 (by decide) hm (fun hm => ?_) (fun hm => ?_)
  · refine j_sub (L' := []) [] rfl ?_
    exact w_Mod_level_35 C O hm
  · refine j_iload_n C 2 dX12_level_7 rfl rfl ?_
    refine j_cS C l_X12_280 [.int v2] [] (fun u2 => some (.int u2)) (fun _ => h) (fun u2 => [.int u2]) hm (fun l u hu => c_Mod_isMinute hu) rfl (Nat.le_of_ble_eq_true rfl) rfl (Nat.le_of_ble_eq_true rfl) (Nat.le_of_ble_eq_true rfl) (fun _ => rfl) dX12_level_8 (fun u2 hm => ?_)
    refine j_ifeq C 35 dX12_level_11 (by decide) hm (fun hm => ?_) (fun hm => ?_)
    · refine j_sub (L' := []) [] rfl ?_
      exact w_Mod_level_35 C O hm
    · refine j_aload_n C 0 dX12_level_14 rfl rfl ?_
      refine j_iload_n C 1 dX12_level_15 rfl rfl ?_
      refine j_iload_n C 2 dX12_level_16 rfl rfl ?_
      refine j_aload_n C 0 dX12_level_17 rfl rfl ?_
      refine j_bipush C 9 dX12_level_18 (by decide) ?_
      refine j_cV C l_X12_283 [.int ((9 : Int32))] [.int v2, .int v1, .ref (G.1 + 84)] (fun u3 => some (.int u3)) (fun _ => h) (fun u3 => [.int u3, .int v2, .int v1, .ref (G.1 + 84)]) n_84 hm (fun l u hu => c_Mod_term hu) rfl (Nat.le_of_ble_eq_true rfl) rfl (Nat.le_of_ble_eq_true rfl) (Nat.le_of_ble_eq_true rfl) (fun _ => rfl) dX12_level_20 (fun u3 hm => ?_)
      refine j_aload_n C 0 dX12_level_23 rfl rfl ?_
      refine j_bipush C 10 dX12_level_24 (by decide) ?_
      refine j_cV C l_X12_283 [.int ((10 : Int32))] [.int u3, .int v2, .int v1, .ref (G.1 + 84)] (fun u4 => some (.int u4)) (fun _ => h) (fun u4 => [.int u4, .int u3, .int v2, .int v1, .ref (G.1 + 84)]) n_84 hm (fun l u hu => c_Mod_term hu) rfl (Nat.le_of_ble_eq_true rfl) rfl (Nat.le_of_ble_eq_true rfl) (Nat.le_of_ble_eq_true rfl) (fun _ => rfl) dX12_level_26 (fun u4 hm => ?_)
      refine j_cV C l_X12_286 [.int v1, .int v2, .int u3, .int u4] [] (fun u5 => some (.int u5)) (fun _ => h) (fun u5 => [.int u5]) n_84 hm (fun l u hu => c_Mod_levelOf hu) rfl (Nat.le_of_ble_eq_true rfl) rfl (Nat.le_of_ble_eq_true rfl) (Nat.le_of_ble_eq_true rfl) (fun _ => rfl) dX12_level_29 (fun u5 hm => ?_)
      refine j_goto C 38 dX12_level_32 (by decide) ?_
      refine j_sub (L' := []) [] rfl ?_
      exact w_Mod_level_38 C O hm
theorem c_Mod_level {G : jG} {l : Launch} {v1 : Int32} {v2 : Int32} {h : Hp} {out : Int32} (hm : s_Mod_level v1 v2 h = some out) : mt G l yX12_level cX12_level 3 (some .int) 4 141 [.ref (G.1 + 84), .int v1, .int v2] h (some (.int out)) h :=
  mt_of (by decide) (Nat.le_of_ble_eq_true rfl) _ rfl (fun X I C O => w_Mod_level C O hm)
noncomputable def s_Mod_size_10 (s0 : Int32) (h : Hp) : Option Int32 :=
  some (s0)
noncomputable def s_Mod_size (v0 : Int32) (h : Hp) : Option Int32 :=
  if 0 ≤ v0 then
    s_Mod_size_10 v0 h
  else
    s_Mod_size_10 (-v0) h
def O_Mod_size (G : jG) (X : jX) (h : Hp) (out : Int32) : Prop := jO G X (some .int) (some (.int out)) h
theorem w_Mod_size_10 {G : jG} {X : jX} (C : jC G X cX12_size 1 RX12 1 70) {s0 : Int32} {h : Hp} {out : Int32} (O : (O_Mod_size G X h) out) (hm : s_Mod_size_10 s0 h = some out) : J G X 10 [] [.int s0] h := by
  unfold s_Mod_size_10 at hm
  obtain rfl := Option.some.inj hm
  exact j_iret C O dX12_size_10
theorem w_Mod_size {G : jG} {X : jX} (C : jC G X cX12_size 1 RX12 1 70) {v0 : Int32} {h : Hp} {out : Int32} (O : (O_Mod_size G X h) out) (hm : s_Mod_size v0 h = some out) : J G X 0 [(0, .int v0)] [] h := by
  unfold s_Mod_size at hm
  refine j_iload_n C 0 dX12_size_0 rfl rfl ?_
  refine j_ifge C 9 dX12_size_1 (by decide) hm (fun hm => ?_) (fun hm => ?_)
  · refine j_iload_n C 0 dX12_size_9 rfl rfl ?_
    refine j_sub (L' := []) [] rfl ?_
    exact w_Mod_size_10 C O hm
  · refine j_iload_n C 0 dX12_size_4 rfl rfl ?_
    refine j_ineg C dX12_size_5 ?_
    refine j_goto C 10 dX12_size_6 (by decide) ?_
    refine j_sub (L' := []) [] rfl ?_
    exact w_Mod_size_10 C O hm
theorem c_Mod_size {G : jG} {l : Launch} {v0 : Int32} {h : Hp} {out : Int32} (hm : s_Mod_size v0 h = some out) : mt G l yX12_size cX12_size 1 (some .int) 1 70 [.int v0] h (some (.int out)) h :=
  mt_of (by decide) (Nat.le_of_ble_eq_true rfl) _ rfl (fun X I C O => w_Mod_size C O hm)
