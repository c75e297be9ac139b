noncomputable def s_Teller_worksOut_191 (v1 : Nat) (v3 : Int32) (v4 : Int32) (v5 : Int32) (h : Hp) : Option ((Nat × Int32 × Int32 × Int32 × Hp) ⊕ (Int32 × Hp)) :=
  some (.inl (v1, v3, v4, (v5 + (1 : Int32)), h))
noncomputable def s_Teller_worksOut_73 (v1 : Nat) (v3 : Int32) (v4 : Int32) (v5 : Int32) (s0 : Int32) (s1 : Int32) (h : Hp) : Option ((Nat × Int32 × Int32 × Int32 × Hp) ⊕ (Int32 × Hp)) :=
  ib s1 64 <| s_Teller_worksOut_191 v1 v3 v4 v5 (sI h 53 (ix s1) s0)
noncomputable def s_Teller_worksOut_103 (h : Hp) : Option (Int32 × Hp) :=
  some ((0 : Int32), h)
noncomputable def s_Teller_worksOut_171 (v1 : Nat) (v3 : Int32) (v4 : Int32) (v5 : Int32) (v7 : Int32) (s0 : Int32) (s1 : Int32) (h : Hp) : Option ((Nat × Int32 × Int32 × Int32 × Hp) ⊕ (Int32 × Hp)) :=
  if s1 = s0 then
    s_Teller_worksOut_191 v1 v3 v4 (z_max v5 (v7 - ((1 : Int32)))) h
  else
    s_Teller_worksOut_191 v1 v3 (v4 + (-1 : Int32)) v5 h
noncomputable def s_Teller_worksOut_159 (v1 : Nat) (v3 : Int32) (v4 : Int32) (v5 : Int32) (v6 : Int32) (v7 : Int32) (s0 : Int32) (h : Hp) : Option ((Nat × Int32 × Int32 × Int32 × Hp) ⊕ (Int32 × Hp)) :=
  if v6 = ((10 : Int32)) then
    s_Teller_worksOut_171 v1 v3 v4 v5 v7 ((1 : Int32)) s0 h
  else
    s_Teller_worksOut_171 v1 v3 v4 v5 v7 ((0 : Int32)) s0 h
noncomputable def s_Teller_worksOut_207 (s0 : Int32) (h : Hp) : Option (Int32 × Hp) :=
  bz s0 <| some (s0, h)
noncomputable def s_Teller_worksOut_6 (v1 : Nat) (v3 : Int32) (v4 : Int32) (v5 : Int32) (h : Hp) : Option ((Nat × Int32 × Int32 × Int32 × Hp) ⊕ (Int32 × Hp)) :=
  if v3 ≤ v5 then
    if v4 = 0 then
      inr (s_Teller_worksOut_207 ((1 : Int32)) h)
    else
      inr (s_Teller_worksOut_207 ((0 : Int32)) h)
  else
    ak h v1 0 <| ib v5 (ln h v1) <| ak h v1 0 <| ib v5 (ln h v1) <| if ((1 : Int32)) < ((hI h v1 (ix v5)) &&& ((15 : Int32))) then
      if ((8 : Int32)) < ((hI h v1 (ix v5)) &&& ((15 : Int32))) then
        if 0 ≤ v4 then
          if ((hI h v1 (ix v5)) &&& ((15 : Int32))) = ((9 : Int32)) then
            ib v4 64 <| ib v4 64 <| s_Teller_worksOut_191 v1 v3 v4 v5 (sI h 53 (ix v4) (((1 : Int32)) - (hI h 53 (ix v4))))
          else
            ib v4 64 <| if (hI h 53 (ix v4)) = 0 then
              s_Teller_worksOut_159 v1 v3 v4 v5 ((hI h v1 (ix v5)) &&& ((15 : Int32))) (z_shr (hI h v1 (ix v5)) ((4 : Int32))) ((0 : Int32)) h
            else
              s_Teller_worksOut_159 v1 v3 v4 v5 ((hI h v1 (ix v5)) &&& ((15 : Int32))) (z_shr (hI h v1 (ix v5)) ((4 : Int32))) ((1 : Int32)) h
        else
          some (.inr ((0 : Int32), h))
      else
        if v4 < ((1 : Int32)) then
          inr (s_Teller_worksOut_103 h)
        else
          (s_Teller_joins ((hI h v1 (ix v5)) &&& ((15 : Int32))) (v4 - ((1 : Int32))) h).bind fun u3 => if u3.1 = 0 then
            inr (s_Teller_worksOut_103 u3.2)
          else
            s_Teller_worksOut_191 v1 v3 (v4 + (-1 : Int32)) v5 u3.2
    else
      if v4 < ((63 : Int32)) then
        if ((hI h v1 (ix v5)) &&& ((15 : Int32))) = 0 then
          s_Teller_worksOut_73 v1 v3 (v4 + (1 : Int32)) v5 (z_shr (hI h v1 (ix v5)) ((4 : Int32))) (v4 + (1 : Int32)) h
        else
          ib (z_rem (z_shr (hI h v1 (ix v5)) ((4 : Int32))) ((7 : Int32))) 7 <| s_Teller_worksOut_73 v1 v3 (v4 + (1 : Int32)) v5 (hI h 52 (ix (z_rem (z_shr (hI h v1 (ix v5)) ((4 : Int32))) ((7 : Int32))))) (v4 + (1 : Int32)) h
      else
        some (.inr ((0 : Int32), h))
noncomputable def s_Teller_worksOut (v1 : Nat) (v2 : Int32) (v3 : Int32) (h : Hp) : Option (Int32 × Hp) :=
  lp (fun q => s_Teller_worksOut_6 q.1 q.2.1 q.2.2.1 q.2.2.2.1 q.2.2.2.2) (v1, v3, ((-1 : Int32)), v2, h)
def O_Teller_worksOut (G : jG) (X : jX) (out : (Int32 × Hp)) : Prop := jO G X (some .boolean) (some (.int out.1)) out.2
def P_Teller_worksOut_6 (G : jG) (X : jX) (q : Nat × Int32 × Int32 × Int32 × Hp) : Prop := J G X 6 [(0, .ref (G.1 + 51)), (1, .ref (G.1 + q.1)), (3, .int q.2.1), (4, .int q.2.2.1), (5, .int q.2.2.2.1)] [] q.2.2.2.2
def O_Teller_worksOut_6 (G : jG) (X : jX) (t : ((Nat × Int32 × Int32 × Int32 × Hp) ⊕ (Int32 × Hp))) : Prop := Sum.elim (P_Teller_worksOut_6 G X) (O_Teller_worksOut G X) t
theorem w_Teller_worksOut_191 {G : jG} {X : jX} (C : jC G X cX8_worksOut 8 RX8 2 98) {v1 : Nat} {v3 : Int32} {v4 : Int32} {v5 : Int32} {h : Hp} {out : ((Nat × Int32 × Int32 × Int32 × Hp) ⊕ (Int32 × Hp))} (O : (O_Teller_worksOut_6 G X) out) (hm : s_Teller_worksOut_191 v1 v3 v4 v5 h = some out) : J G X 191 [(0, .ref (G.1 + 51)), (1, .ref (G.1 + v1)), (3, .int v3), (4, .int v4), (5, .int v5)] [] h := by
  unfold s_Teller_worksOut_191 at hm
  refine j_iinc C 4 [(5, .int (v5 + (1 : Int32))), (0, .ref (G.1 + 51)), (1, .ref (G.1 + v1)), (3, .int v3), (4, .int v4)] dX8_worksOut_191 rfl (add_lit (by decide)) (by decide) rfl ?_
  refine j_goto C 6 dX8_worksOut_194 (by decide) ?_
  obtain rfl := Option.some.inj hm
  refine j_sub (L' := [(0, .ref (G.1 + 51)), (1, .ref (G.1 + v1)), (3, .int v3), (4, .int v4), (5, .int (v5 + (1 : Int32)))]) [1, 2, 3, 4, 0] rfl ?_
  exact O
theorem w_Teller_worksOut_73 {G : jG} {X : jX} (C : jC G X cX8_worksOut 8 RX8 2 98) {v1 : Nat} {v3 : Int32} {v4 : Int32} {v5 : Int32} {s0 : Int32} {s1 : Int32} {h : Hp} {out : ((Nat × Int32 × Int32 × Int32 × Hp) ⊕ (Int32 × Hp))} (O : (O_Teller_worksOut_6 G X) out) (hm : s_Teller_worksOut_73 v1 v3 v4 v5 s0 s1 h = some out) : J G X 73 [(0, .ref (G.1 + 51)), (1, .ref (G.1 + v1)), (3, .int v3), (4, .int v4), (5, .int v5)] [.int s0, .int s1, .ref (G.1 + 53)] h := by
  unfold s_Teller_worksOut_73 at hm
  refine j_iast C n_53 hm dX8_worksOut_73 (fun hm => ?_)
  refine j_goto C 191 dX8_worksOut_74 (by decide) ?_
  refine j_sub (L' := [(0, .ref (G.1 + 51)), (1, .ref (G.1 + v1)), (3, .int v3), (4, .int v4), (5, .int v5)]) [0, 1, 2, 3, 4] rfl ?_
  exact w_Teller_worksOut_191 C O hm
theorem w_Teller_worksOut_103 {G : jG} {X : jX} (C : jC G X cX8_worksOut 8 RX8 2 98) {h : Hp} {out : (Int32 × Hp)} (O : (O_Teller_worksOut G X) out) (hm : s_Teller_worksOut_103 h = some out) : J G X 103 [] [] h := by
  unfold s_Teller_worksOut_103 at hm
  refine j_iconst C 0 dX8_worksOut_103 (by decide) ?_
  obtain rfl := Option.some.inj hm
  exact j_zret C O (by decide) dX8_worksOut_104
theorem w_Teller_worksOut_171 {G : jG} {X : jX} (C : jC G X cX8_worksOut 8 RX8 2 98) {v1 : Nat} {v3 : Int32} {v4 : Int32} {v5 : Int32} {v7 : Int32} {s0 : Int32} {s1 : Int32} {h : Hp} {out : ((Nat × Int32 × Int32 × Int32 × Hp) ⊕ (Int32 × Hp))} (O : (O_Teller_worksOut_6 G X) out) (hm : s_Teller_worksOut_171 v1 v3 v4 v5 v7 s0 s1 h = some out) : J G X 171 [(0, .ref (G.1 + 51)), (1, .ref (G.1 + v1)), (3, .int v3), (4, .int v4), (5, .int v5), (7, .int v7)] [.int s0, .int s1] h := by
  unfold s_Teller_worksOut_171 at hm
  refine j_if_icmpne C 188 dX8_worksOut_171 (by decide) hm (fun hm => ?_) (fun hm => ?_)
  · refine j_iload C 4 dX8_worksOut_174 rfl ?_
    refine j_iload C 5 dX8_worksOut_176 rfl ?_
    refine j_iconst C 1 dX8_worksOut_178 (by decide) ?_
    refine j_isub C dX8_worksOut_179 ?_
    refine j_mmax C wd_935 wd_936 wd_126 wd_937 (Nat.le_of_ble_eq_true rfl) (Nat.le_of_ble_eq_true rfl) dX8_worksOut_180 ?_
    refine j_istore C [(5, .int (z_max v5 (v7 - ((1 : Int32))))), (0, .ref (G.1 + 51)), (1, .ref (G.1 + v1)), (3, .int v3), (4, .int v4), (7, .int v7)] dX8_worksOut_183 (by decide) rfl ?_
    refine j_goto C 191 dX8_worksOut_185 (by decide) ?_
    refine j_sub (L' := [(0, .ref (G.1 + 51)), (1, .ref (G.1 + v1)), (3, .int v3), (4, .int v4), (5, .int (z_max v5 (v7 - ((1 : Int32)))))]) [1, 2, 3, 4, 0] rfl ?_
    exact w_Teller_worksOut_191 C O hm
  · refine j_iinc C 3 [(4, .int (v4 + (-1 : Int32))), (0, .ref (G.1 + 51)), (1, .ref (G.1 + v1)), (3, .int v3), (5, .int v5), (7, .int v7)] dX8_worksOut_188 rfl (add_lit (by decide)) (by decide) rfl ?_
    refine j_sub (L' := [(0, .ref (G.1 + 51)), (1, .ref (G.1 + v1)), (3, .int v3), (4, .int (v4 + (-1 : Int32))), (5, .int v5)]) [1, 2, 3, 0, 4] rfl ?_
    exact w_Teller_worksOut_191 C O hm
theorem w_Teller_worksOut_159 {G : jG} {X : jX} (C : jC G X cX8_worksOut 8 RX8 2 98) {v1 : Nat} {v3 : Int32} {v4 : Int32} {v5 : Int32} {v6 : Int32} {v7 : Int32} {s0 : Int32} {h : Hp} {out : ((Nat × Int32 × Int32 × Int32 × Hp) ⊕ (Int32 × Hp))} (O : (O_Teller_worksOut_6 G X) out) (hm : s_Teller_worksOut_159 v1 v3 v4 v5 v6 v7 s0 h = some out) : J G X 159 [(0, .ref (G.1 + 51)), (1, .ref (G.1 + v1)), (3, .int v3), (4, .int v4), (5, .int v5), (6, .int v6), (7, .int v7)] [.int s0] h := by
  unfold s_Teller_worksOut_159 at hm
  refine j_iload C 5 dX8_worksOut_159 rfl ?_
  refine j_bipush C 10 dX8_worksOut_161 (by decide) ?_
  refine j_if_icmpne C 170 dX8_worksOut_163 (by decide) hm (fun hm => ?_) (fun hm => ?_)
  · refine j_iconst C 1 dX8_worksOut_166 (by decide) ?_
    refine j_goto C 171 dX8_worksOut_167 (by decide) ?_
    refine j_sub (L' := [(0, .ref (G.1 + 51)), (1, .ref (G.1 + v1)), (3, .int v3), (4, .int v4), (5, .int v5), (7, .int v7)]) [0, 1, 2, 3, 4, 6] rfl ?_
    exact w_Teller_worksOut_171 C O hm
  · refine j_iconst C 0 dX8_worksOut_170 (by decide) ?_
    refine j_sub (L' := [(0, .ref (G.1 + 51)), (1, .ref (G.1 + v1)), (3, .int v3), (4, .int v4), (5, .int v5), (7, .int v7)]) [0, 1, 2, 3, 4, 6] rfl ?_
    exact w_Teller_worksOut_171 C O hm
theorem w_Teller_worksOut_207 {G : jG} {X : jX} (C : jC G X cX8_worksOut 8 RX8 2 98) {s0 : Int32} {h : Hp} {out : (Int32 × Hp)} (O : (O_Teller_worksOut G X) out) (hm : s_Teller_worksOut_207 s0 h = some out) : J G X 207 [] [.int s0] h := by
  unfold s_Teller_worksOut_207 at hm
  obtain ⟨cz, hm⟩ := bz_inv hm
  obtain rfl := Option.some.inj hm
  exact j_zret C O cz dX8_worksOut_207
theorem w_Teller_worksOut_6 {G : jG} {X : jX} (C : jC G X cX8_worksOut 8 RX8 2 98) {v1 : Nat} {v3 : Int32} {v4 : Int32} {v5 : Int32} {h : Hp} {out : ((Nat × Int32 × Int32 × Int32 × Hp) ⊕ (Int32 × Hp))} (O : (O_Teller_worksOut_6 G X) out) (hm : s_Teller_worksOut_6 v1 v3 v4 v5 h = some out) : J G X 6 [(0, .ref (G.1 + 51)), (1, .ref (G.1 + v1)), (3, .int v3), (4, .int v4), (5, .int v5)] [] h := by
  unfold s_Teller_worksOut_6 at hm
  refine j_iload C 4 dX8_worksOut_6 rfl ?_
  refine j_iload_n C 2 dX8_worksOut_8 rfl rfl ?_
  refine j_if_icmpge C 197 dX8_worksOut_9 (by decide) hm (fun hm => ?_) (fun hm => ?_)
  · refine j_iload C 3 dX8_worksOut_197 rfl ?_
    refine j_ifne C 206 dX8_worksOut_199 (by decide) hm (fun hm => ?_) (fun hm => ?_)
    · refine j_iconst C 1 dX8_worksOut_202 (by decide) ?_
      refine j_goto C 207 dX8_worksOut_203 (by decide) ?_
      obtain ⟨o_0, hm_0, rfl⟩ := inr_inv hm
      refine j_sub (L' := []) [] rfl ?_
      exact w_Teller_worksOut_207 C O hm_0
    · refine j_iconst C 0 dX8_worksOut_206 (by decide) ?_
      obtain ⟨o_0, hm_0, rfl⟩ := inr_inv hm
      refine j_sub (L' := []) [] rfl ?_
      exact w_Teller_worksOut_207 C O hm_0
  · refine j_aload_n C 1 dX8_worksOut_12 rfl rfl ?_
    refine j_iload C 4 dX8_worksOut_13 rfl ?_
    obtain ⟨c1, hm⟩ := ak_inv hm
    refine j_iald C c1 hm dX8_worksOut_15 (fun hm => ?_)
    refine j_bipush C 15 dX8_worksOut_16 (by decide) ?_
    refine j_iand C dX8_worksOut_18 ?_
    refine j_istore C [(6, .int ((hI h v1 (ix v5)) &&& ((15 : Int32)))), (0, .ref (G.1 + 51)), (1, .ref (G.1 + v1)), (3, .int v3), (4, .int v4), (5, .int v5)] dX8_worksOut_19 (by decide) rfl ?_
    refine j_aload_n C 2 dX8_worksOut_21 rfl rfl ?_
    refine j_iload C 5 dX8_worksOut_22 rfl ?_
    obtain ⟨c2, hm⟩ := ak_inv hm
    refine j_iald C c2 hm dX8_worksOut_24 (fun hm => ?_)
    refine j_iconst C 4 dX8_worksOut_25 (by decide) ?_
    refine j_ishr C dX8_worksOut_26 ?_
    refine j_istore C [(7, .int (z_shr (hI h v1 (ix v5)) ((4 : Int32)))), (6, .int ((hI h v1 (ix v5)) &&& ((15 : Int32)))), (0, .ref (G.1 + 51)), (1, .ref (G.1 + v1)), (3, .int v3), (4, .int v4), (5, .int v5)] dX8_worksOut_27 (by decide) rfl ?_
    refine j_iload C 1 dX8_worksOut_29 rfl ?_
    refine j_iconst C 1 dX8_worksOut_31 (by decide) ?_
    refine j_if_icmpgt C 77 dX8_worksOut_32 (by decide) hm (fun hm => ?_) (fun hm => ?_)
    · refine j_iload C 1 dX8_worksOut_77 rfl ?_
      refine j_bipush C 8 dX8_worksOut_79 (by decide) ?_
      refine j_if_icmpgt C 111 dX8_worksOut_81 (by decide) hm (fun hm => ?_) (fun hm => ?_)
      · refine j_iload C 5 dX8_worksOut_111 rfl ?_
        refine j_ifge C 118 dX8_worksOut_113 (by decide) hm (fun hm => ?_) (fun hm => ?_)
        · refine j_iload C 1 dX8_worksOut_118 rfl ?_
          refine j_bipush C 9 dX8_worksOut_120 (by decide) ?_
          refine j_if_icmpne C 144 dX8_worksOut_122 (by decide) hm (fun hm => ?_) (fun hm => ?_)
          · refine j_aload_n C 2 dX8_worksOut_125 rfl rfl ?_
            refine j_gS C f_X8_13 n_51 q_51_1 dX8_worksOut_126 ?_
            refine j_iload C 5 dX8_worksOut_129 rfl ?_
            refine j_iconst C 1 dX8_worksOut_131 (by decide) ?_
            refine j_aload_n C 2 dX8_worksOut_132 rfl rfl ?_
            refine j_gS C f_X8_13 n_51 q_51_1 dX8_worksOut_133 ?_
            refine j_iload C 5 dX8_worksOut_136 rfl ?_
            refine j_iald C n_53 hm dX8_worksOut_138 (fun hm => ?_)
            refine j_isub C dX8_worksOut_139 ?_
            refine j_iast C n_53 hm dX8_worksOut_140 (fun hm => ?_)
            refine j_goto C 191 dX8_worksOut_141 (by decide) ?_
            refine j_sub (L' := [(0, .ref (G.1 + 51)), (1, .ref (G.1 + v1)), (3, .int v3), (4, .int v4), (5, .int v5)]) [2, 3, 4, 5, 6] rfl ?_
            exact w_Teller_worksOut_191 C O hm
          · refine j_aload_n C 2 dX8_worksOut_144 rfl rfl ?_
            refine j_gS C f_X8_13 n_51 q_51_1 dX8_worksOut_145 ?_
            refine j_iload C 5 dX8_worksOut_148 rfl ?_
            refine j_iald C n_53 hm dX8_worksOut_150 (fun hm => ?_)
            refine j_ifeq C 158 dX8_worksOut_151 (by decide) hm (fun hm => ?_) (fun hm => ?_)
            · refine j_iconst C 0 dX8_worksOut_158 (by decide) ?_
              refine j_sub (L' := [(0, .ref (G.1 + 51)), (1, .ref (G.1 + v1)), (3, .int v3), (4, .int v4), (5, .int v5), (6, .int ((hI h v1 (ix v5)) &&& ((15 : Int32)))), (7, .int (z_shr (hI h v1 (ix v5)) ((4 : Int32))))]) [2, 3, 4, 5, 6, 1, 0] rfl ?_
              exact w_Teller_worksOut_159 C O hm
            · refine j_iconst C 1 dX8_worksOut_154 (by decide) ?_
              refine j_goto C 159 dX8_worksOut_155 (by decide) ?_
              refine j_sub (L' := [(0, .ref (G.1 + 51)), (1, .ref (G.1 + v1)), (3, .int v3), (4, .int v4), (5, .int v5), (6, .int ((hI h v1 (ix v5)) &&& ((15 : Int32)))), (7, .int (z_shr (hI h v1 (ix v5)) ((4 : Int32))))]) [2, 3, 4, 5, 6, 1, 0] rfl ?_
              exact w_Teller_worksOut_159 C O hm
        · refine j_iconst C 0 dX8_worksOut_116 (by decide) ?_
          obtain rfl := Option.some.inj hm
          exact j_zret C O (by decide) dX8_worksOut_117
      · refine j_iload C 5 dX8_worksOut_84 rfl ?_
        refine j_iconst C 1 dX8_worksOut_86 (by decide) ?_
        refine j_if_icmplt C 103 dX8_worksOut_87 (by decide) hm (fun hm => ?_) (fun hm => ?_)
        · obtain ⟨o_0, hm_0, rfl⟩ := inr_inv hm
          refine j_sub (L' := []) [] rfl ?_
          exact w_Teller_worksOut_103 C O hm_0
        · refine j_aload_n C 2 dX8_worksOut_90 rfl rfl ?_
          refine j_iload C 1 dX8_worksOut_91 rfl ?_
          refine j_iload C 5 dX8_worksOut_93 rfl ?_
          refine j_iconst C 1 dX8_worksOut_95 (by decide) ?_
          refine j_isub C dX8_worksOut_96 ?_
          refine j_cV C l_X8_32 [.int ((hI h v1 (ix v5)) &&& ((15 : Int32))), .int (v4 - ((1 : Int32)))] [] (fun u3 => some (.int u3.1)) (fun u3 => u3.2) (fun u3 => [.int u3.1]) n_51 hm (fun l u hu => c_Teller_joins hu) rfl (Nat.le_of_ble_eq_true rfl) rfl (Nat.le_of_ble_eq_true rfl) (Nat.le_of_ble_eq_true rfl) (fun _ => rfl) dX8_worksOut_97 (fun u3 hm => ?_)
          refine j_ifne C 105 dX8_worksOut_100 (by decide) hm (fun hm => ?_) (fun hm => ?_)
          · obtain ⟨o_0, hm_0, rfl⟩ := inr_inv hm
            refine j_sub (L' := []) [] rfl ?_
            exact w_Teller_worksOut_103 C O hm_0
          · refine j_iinc C 5 [(4, .int (v4 + (-1 : Int32))), (7, .int (z_shr (hI h v1 (ix v5)) ((4 : Int32)))), (6, .int ((hI h v1 (ix v5)) &&& ((15 : Int32)))), (0, .ref (G.1 + 51)), (1, .ref (G.1 + v1)), (3, .int v3), (5, .int v5)] dX8_worksOut_105 rfl (add_lit (by decide)) (by decide) rfl ?_
            refine j_goto C 191 dX8_worksOut_108 (by decide) ?_
            refine j_sub (L' := [(0, .ref (G.1 + 51)), (1, .ref (G.1 + v1)), (3, .int v3), (4, .int (v4 + (-1 : Int32))), (5, .int v5)]) [3, 4, 5, 0, 6] rfl ?_
            exact w_Teller_worksOut_191 C O hm
    · refine j_iload C 5 dX8_worksOut_35 rfl ?_
      refine j_bipush C 63 dX8_worksOut_37 (by decide) ?_
      refine j_if_icmplt C 44 dX8_worksOut_39 (by decide) hm (fun hm => ?_) (fun hm => ?_)
      · refine j_iinc C 5 [(4, .int (v4 + (1 : Int32))), (7, .int (z_shr (hI h v1 (ix v5)) ((4 : Int32)))), (6, .int ((hI h v1 (ix v5)) &&& ((15 : Int32)))), (0, .ref (G.1 + 51)), (1, .ref (G.1 + v1)), (3, .int v3), (5, .int v5)] dX8_worksOut_44 rfl (add_lit (by decide)) (by decide) rfl ?_
        refine j_aload_n C 3 dX8_worksOut_47 rfl rfl ?_
        refine j_gS C f_X8_13 n_51 q_51_1 dX8_worksOut_48 ?_
        refine j_iload C 0 dX8_worksOut_51 rfl ?_
        refine j_iload C 2 dX8_worksOut_53 rfl ?_
        refine j_ifne C 63 dX8_worksOut_55 (by decide) hm (fun hm => ?_) (fun hm => ?_)
        · refine j_iload C 1 dX8_worksOut_58 rfl ?_
          refine j_goto C 73 dX8_worksOut_60 (by decide) ?_
          refine j_sub (L' := [(0, .ref (G.1 + 51)), (1, .ref (G.1 + v1)), (3, .int v3), (4, .int (v4 + (1 : Int32))), (5, .int v5)]) [3, 4, 5, 0, 6] rfl ?_
          exact w_Teller_worksOut_73 C O hm
        · refine j_aload_n C 3 dX8_worksOut_63 rfl rfl ?_
          refine j_gS C f_X8_9 n_51 q_51_0 dX8_worksOut_64 ?_
          refine j_iload C 1 dX8_worksOut_67 rfl ?_
          refine j_bipush C 7 dX8_worksOut_69 (by decide) ?_
          refine j_irem C dX8_worksOut_71 (by decide) ?_
          refine j_iald C n_52 hm dX8_worksOut_72 (fun hm => ?_)
          refine j_sub (L' := [(0, .ref (G.1 + 51)), (1, .ref (G.1 + v1)), (3, .int v3), (4, .int (v4 + (1 : Int32))), (5, .int v5)]) [3, 4, 5, 0, 6] rfl ?_
          exact w_Teller_worksOut_73 C O hm
      · refine j_iconst C 0 dX8_worksOut_42 (by decide) ?_
        obtain rfl := Option.some.inj hm
        exact j_zret C O (by decide) dX8_worksOut_43
theorem k_Teller_worksOut_6 {G : jG} {X : jX} (C : jC G X cX8_worksOut 8 RX8 2 98) {v1 : Nat} {v3 : Int32} {v4 : Int32} {v5 : Int32} {h : Hp} {out : (Int32 × Hp)} (O : (O_Teller_worksOut G X) out) (hm : lp (fun q => s_Teller_worksOut_6 q.1 q.2.1 q.2.2.1 q.2.2.2.1 q.2.2.2.2) (v1, v3, v4, v5, h) = some out) : J G X 6 [(0, .ref (G.1 + 51)), (1, .ref (G.1 + v1)), (3, .int v3), (4, .int v4), (5, .int v5)] [] h :=
  lp_ok (P := P_Teller_worksOut_6 G X) (O := (O_Teller_worksOut G X)) (fun q r hm O => w_Teller_worksOut_6 C O hm) hm O
theorem w_Teller_worksOut {G : jG} {X : jX} (C : jC G X cX8_worksOut 8 RX8 2 98) {v1 : Nat} {v2 : Int32} {v3 : Int32} {h : Hp} {out : (Int32 × Hp)} (O : (O_Teller_worksOut G X) out) (hm : s_Teller_worksOut v1 v2 v3 h = some out) : J G X 0 [(0, .ref (G.1 + 51)), (1, .ref (G.1 + v1)), (2, .int v2), (3, .int v3)] [] h := by
  unfold s_Teller_worksOut at hm
  refine j_iconst C (-1 : Int32) dX8_worksOut_0 (by decide) ?_
  refine j_istore C [(4, .int ((-1 : Int32))), (0, .ref (G.1 + 51)), (1, .ref (G.1 + v1)), (2, .int v2), (3, .int v3)] dX8_worksOut_1 (by decide) rfl ?_
  refine j_iload_n C 3 dX8_worksOut_3 rfl rfl ?_
  refine j_istore C [(5, .int v2), (4, .int ((-1 : Int32))), (0, .ref (G.1 + 51)), (1, .ref (G.1 + v1)), (2, .int v2), (3, .int v3)] dX8_worksOut_4 (by decide) rfl ?_
  refine j_sub (L' := [(0, .ref (G.1 + 51)), (1, .ref (G.1 + v1)), (3, .int v3), (4, .int ((-1 : Int32))), (5, .int v2)]) [2, 3, 5, 1, 0] rfl ?_
  exact k_Teller_worksOut_6 C O hm
theorem c_Teller_worksOut {G : jG} {l : Launch} {v1 : Nat} {v2 : Int32} {v3 : Int32} {h : Hp} {out : (Int32 × Hp)} (hm : s_Teller_worksOut v1 v2 v3 h = some out) : mt G l yX8_worksOut cX8_worksOut 8 (some .boolean) 2 98 [.ref (G.1 + 51), .ref (G.1 + v1), .int v2, .int v3] h (some (.int out.1)) out.2 :=
  mt_of (by decide) (Nat.le_of_ble_eq_true rfl) _ rfl (fun X I C O => w_Teller_worksOut C O hm)
noncomputable def s_Teller_tellsBy_117 (v1 : Nat) (v2 : Int32) (v3 : Nat) (v4 : Int32) (h : Hp) : Option ((Nat × Int32 × Nat × Int32 × Hp) ⊕ (Int32 × Hp)) :=
  some (.inl (v1, v2, v3, (v4 + (-4 : Int32)), h))
noncomputable def s_Teller_tellsBy_79 (v1 : Nat) (v2 : Int32) (v3 : Nat) (v4 : Int32) (v5 : Int32) (s0 : Int32) (h : Hp) : Option ((Nat × Int32 × Nat × Int32 × Hp) ⊕ (Int32 × Hp)) :=
  if s0 = 0 then
    s_Teller_tellsBy_117 v1 v2 v3 v4 h
  else
    ak h v1 101 <| nn (rf h v1 0) fun r2 => ak h v3 0 <| ib (v4 + ((1 : Int32))) (ln h v3) <| (s_Teller_worksOut r2 (hI h v3 (ix (v4 + ((1 : Int32))))) v5 h).bind fun u4 => if u4.1 = 0 then
      s_Teller_tellsBy_117 v1 v2 v3 v4 u4.2
    else
      ib ((0 : Int32)) 64 <| some (.inr ((1 : Int32), sI u4.2 51 2 (hI u4.2 53 (ix ((0 : Int32))))))
noncomputable def s_Teller_tellsBy_74 (v1 : Nat) (v2 : Int32) (v3 : Nat) (v4 : Int32) (v5 : Int32) (h : Hp) : Option ((Nat × Int32 × Nat × Int32 × Hp) ⊕ (Int32 × Hp)) :=
  s_Teller_tellsBy_79 v1 v2 v3 v4 v5 ((1 : Int32)) h
noncomputable def s_Teller_tellsBy_78 (v1 : Nat) (v2 : Int32) (v3 : Nat) (v4 : Int32) (v5 : Int32) (h : Hp) : Option ((Nat × Int32 × Nat × Int32 × Hp) ⊕ (Int32 × Hp)) :=
  s_Teller_tellsBy_79 v1 v2 v3 v4 v5 ((0 : Int32)) h
noncomputable def s_Teller_tellsBy_11 (v1 : Nat) (v2 : Int32) (v3 : Nat) (v4 : Int32) (h : Hp) : Option ((Nat × Int32 × Nat × Int32 × Hp) ⊕ (Int32 × Hp)) :=
  if v4 < 0 then
    some (.inr ((0 : Int32), h))
  else
    ak h v3 0 <| ib v4 (ln h v3) <| if (hI h v3 (ix v4)) = v2 then
      ak h v3 0 <| ib (v4 + ((2 : Int32))) (ln h v3) <| ak h v3 0 <| ib (v4 + ((3 : Int32))) (ln h v3) <| if (hI h v3 (ix (v4 + ((3 : Int32))))) = (hI h v3 (ix (v4 + ((2 : Int32))))) then
        s_Teller_tellsBy_74 v1 v2 v3 v4 (hI h v3 (ix (v4 + ((2 : Int32))))) h
      else
        ak h v1 101 <| nn (rf h v1 0) fun r5 => (s_Teller_worksOut r5 (hI h v3 (ix (v4 + ((2 : Int32))))) (hI h v3 (ix (v4 + ((3 : Int32))))) h).bind fun u6 => if u6.1 = 0 then
          s_Teller_tellsBy_78 v1 v2 v3 v4 (hI h v3 (ix (v4 + ((2 : Int32))))) u6.2
        else
          ib ((0 : Int32)) 64 <| if (hI u6.2 53 (ix ((0 : Int32)))) = 0 then
            s_Teller_tellsBy_78 v1 v2 v3 v4 (hI h v3 (ix (v4 + ((2 : Int32))))) u6.2
          else
            s_Teller_tellsBy_74 v1 v2 v3 v4 (hI h v3 (ix (v4 + ((2 : Int32))))) u6.2
    else
      s_Teller_tellsBy_117 v1 v2 v3 v4 h
noncomputable def s_Teller_tellsBy (v1 : Nat) (v2 : Int32) (h : Hp) : Option (Int32 × Hp) :=
  ak h v1 101 <| nn (rf h v1 1) fun r2 => ak h r2 0 <| lp (fun q => s_Teller_tellsBy_11 q.1 q.2.1 q.2.2.1 q.2.2.2.1 q.2.2.2.2) (v1, v2, r2, ((nI (ln h r2)) - ((4 : Int32))), h)
def O_Teller_tellsBy (G : jG) (X : jX) (out : (Int32 × Hp)) : Prop := jO G X (some .boolean) (some (.int out.1)) out.2
def P_Teller_tellsBy_11 (G : jG) (X : jX) (q : Nat × Int32 × Nat × Int32 × Hp) : Prop := J G X 11 [(0, .ref (G.1 + 51)), (1, .ref (G.1 + q.1)), (2, .int q.2.1), (3, .ref (G.1 + q.2.2.1)), (4, .int q.2.2.2.1)] [] q.2.2.2.2
def O_Teller_tellsBy_11 (G : jG) (X : jX) (t : ((Nat × Int32 × Nat × Int32 × Hp) ⊕ (Int32 × Hp))) : Prop := Sum.elim (P_Teller_tellsBy_11 G X) (O_Teller_tellsBy G X) t
theorem w_Teller_tellsBy_117 {G : jG} {X : jX} (C : jC G X cX8_tellsBy 8 RX8 3 125) {v1 : Nat} {v2 : Int32} {v3 : Nat} {v4 : Int32} {h : Hp} {out : ((Nat × Int32 × Nat × Int32 × Hp) ⊕ (Int32 × Hp))} (O : (O_Teller_tellsBy_11 G X) out) (hm : s_Teller_tellsBy_117 v1 v2 v3 v4 h = some out) : J G X 117 [(0, .ref (G.1 + 51)), (1, .ref (G.1 + v1)), (2, .int v2), (3, .ref (G.1 + v3)), (4, .int v4)] [] h := by
  unfold s_Teller_tellsBy_117 at hm
  refine j_iinc C 4 [(4, .int (v4 + (-4 : Int32))), (0, .ref (G.1 + 51)), (1, .ref (G.1 + v1)), (2, .int v2), (3, .ref (G.1 + v3))] dX8_tellsBy_117 rfl (add_lit (by decide)) (by decide) rfl ?_
  refine j_goto C 11 dX8_tellsBy_120 (by decide) ?_
  obtain rfl := Option.some.inj hm
  refine j_sub (L' := [(0, .ref (G.1 + 51)), (1, .ref (G.1 + v1)), (2, .int v2), (3, .ref (G.1 + v3)), (4, .int (v4 + (-4 : Int32)))]) [1, 2, 3, 4, 0] rfl ?_
  exact O
theorem w_Teller_tellsBy_79 {G : jG} {X : jX} (C : jC G X cX8_tellsBy 8 RX8 3 125) {v1 : Nat} {v2 : Int32} {v3 : Nat} {v4 : Int32} {v5 : Int32} {s0 : Int32} {h : Hp} {out : ((Nat × Int32 × Nat × Int32 × Hp) ⊕ (Int32 × Hp))} (O : (O_Teller_tellsBy_11 G X) out) (hm : s_Teller_tellsBy_79 v1 v2 v3 v4 v5 s0 h = some out) : J G X 79 [(0, .ref (G.1 + 51)), (1, .ref (G.1 + v1)), (2, .int v2), (3, .ref (G.1 + v3)), (4, .int v4), (5, .int v5)] [.int s0] h := by
  unfold s_Teller_tellsBy_79 at hm
  refine j_istore C [(7, .int s0), (0, .ref (G.1 + 51)), (1, .ref (G.1 + v1)), (2, .int v2), (3, .ref (G.1 + v3)), (4, .int v4), (5, .int v5)] dX8_tellsBy_79 (by decide) rfl ?_
  refine j_iload C 0 dX8_tellsBy_81 rfl ?_
  refine j_ifeq C 117 dX8_tellsBy_83 (by decide) hm (fun hm => ?_) (fun hm => ?_)
  · refine j_sub (L' := [(0, .ref (G.1 + 51)), (1, .ref (G.1 + v1)), (2, .int v2), (3, .ref (G.1 + v3)), (4, .int v4)]) [1, 2, 3, 4, 5] rfl ?_
    exact w_Teller_tellsBy_117 C O hm
  · refine j_aload_n C 1 dX8_tellsBy_86 rfl rfl ?_
    refine j_aload_n C 2 dX8_tellsBy_87 rfl rfl ?_
    obtain ⟨c1, hm⟩ := ak_inv hm
    refine j_gN C f_X8_25 c1 hm dX8_tellsBy_88 (fun r2 hm => ?_)
    refine j_aload_n C 4 dX8_tellsBy_91 rfl rfl ?_
    refine j_iload C 5 dX8_tellsBy_92 rfl ?_
    refine j_iconst C 1 dX8_tellsBy_94 (by decide) ?_
    refine j_iadd C dX8_tellsBy_95 ?_
    obtain ⟨c3, hm⟩ := ak_inv hm
    refine j_iald C c3 hm dX8_tellsBy_96 (fun hm => ?_)
    refine j_iload C 6 dX8_tellsBy_97 rfl ?_
    refine j_cV C l_X8_28 [.ref (G.1 + r2), .int (hI h v3 (ix (v4 + ((1 : Int32))))), .int v5] [] (fun u4 => some (.int u4.1)) (fun u4 => u4.2) (fun u4 => [.int u4.1]) n_51 hm (fun l u hu => c_Teller_worksOut hu) rfl (Nat.le_of_ble_eq_true rfl) rfl (Nat.le_of_ble_eq_true rfl) (Nat.le_of_ble_eq_true rfl) (fun _ => rfl) dX8_tellsBy_99 (fun u4 hm => ?_)
    refine j_ifeq C 117 dX8_tellsBy_102 (by decide) hm (fun hm => ?_) (fun hm => ?_)
    · refine j_sub (L' := [(0, .ref (G.1 + 51)), (1, .ref (G.1 + v1)), (2, .int v2), (3, .ref (G.1 + v3)), (4, .int v4)]) [1, 2, 3, 4, 5] rfl ?_
      exact w_Teller_tellsBy_117 C O hm
    · refine j_aload_n C 1 dX8_tellsBy_105 rfl rfl ?_
      refine j_aload_n C 1 dX8_tellsBy_106 rfl rfl ?_
      refine j_gS C f_X8_13 n_51 q_51_1 dX8_tellsBy_107 ?_
      refine j_iconst C 0 dX8_tellsBy_110 (by decide) ?_
      refine j_iald C n_53 hm dX8_tellsBy_111 (fun hm => ?_)
      refine j_pI C f_X8_16 n_51 dX8_tellsBy_112 ?_
      refine j_iconst C 1 dX8_tellsBy_115 (by decide) ?_
      obtain rfl := Option.some.inj hm
      exact j_zret C O (by decide) dX8_tellsBy_116
theorem w_Teller_tellsBy_74 {G : jG} {X : jX} (C : jC G X cX8_tellsBy 8 RX8 3 125) {v1 : Nat} {v2 : Int32} {v3 : Nat} {v4 : Int32} {v5 : Int32} {h : Hp} {out : ((Nat × Int32 × Nat × Int32 × Hp) ⊕ (Int32 × Hp))} (O : (O_Teller_tellsBy_11 G X) out) (hm : s_Teller_tellsBy_74 v1 v2 v3 v4 v5 h = some out) : J G X 74 [(0, .ref (G.1 + 51)), (1, .ref (G.1 + v1)), (2, .int v2), (3, .ref (G.1 + v3)), (4, .int v4), (5, .int v5)] [] h := by
  unfold s_Teller_tellsBy_74 at hm
  refine j_iconst C 1 dX8_tellsBy_74 (by decide) ?_
  refine j_goto C 79 dX8_tellsBy_75 (by decide) ?_
  refine j_sub (L' := [(0, .ref (G.1 + 51)), (1, .ref (G.1 + v1)), (2, .int v2), (3, .ref (G.1 + v3)), (4, .int v4), (5, .int v5)]) [0, 1, 2, 3, 4, 5] rfl ?_
  exact w_Teller_tellsBy_79 C O hm
theorem w_Teller_tellsBy_78 {G : jG} {X : jX} (C : jC G X cX8_tellsBy 8 RX8 3 125) {v1 : Nat} {v2 : Int32} {v3 : Nat} {v4 : Int32} {v5 : Int32} {h : Hp} {out : ((Nat × Int32 × Nat × Int32 × Hp) ⊕ (Int32 × Hp))} (O : (O_Teller_tellsBy_11 G X) out) (hm : s_Teller_tellsBy_78 v1 v2 v3 v4 v5 h = some out) : J G X 78 [(0, .ref (G.1 + 51)), (1, .ref (G.1 + v1)), (2, .int v2), (3, .ref (G.1 + v3)), (4, .int v4), (5, .int v5)] [] h := by
  unfold s_Teller_tellsBy_78 at hm
  refine j_iconst C 0 dX8_tellsBy_78 (by decide) ?_
  refine j_sub (L' := [(0, .ref (G.1 + 51)), (1, .ref (G.1 + v1)), (2, .int v2), (3, .ref (G.1 + v3)), (4, .int v4), (5, .int v5)]) [0, 1, 2, 3, 4, 5] rfl ?_
  exact w_Teller_tellsBy_79 C O hm
theorem w_Teller_tellsBy_11 {G : jG} {X : jX} (C : jC G X cX8_tellsBy 8 RX8 3 125) {v1 : Nat} {v2 : Int32} {v3 : Nat} {v4 : Int32} {h : Hp} {out : ((Nat × Int32 × Nat × Int32 × Hp) ⊕ (Int32 × Hp))} (O : (O_Teller_tellsBy_11 G X) out) (hm : s_Teller_tellsBy_11 v1 v2 v3 v4 h = some out) : J G X 11 [(0, .ref (G.1 + 51)), (1, .ref (G.1 + v1)), (2, .int v2), (3, .ref (G.1 + v3)), (4, .int v4)] [] h := by
  unfold s_Teller_tellsBy_11 at hm
  refine j_iload C 4 dX8_tellsBy_11 rfl ?_
  refine j_iflt C 123 dX8_tellsBy_13 (by decide) hm (fun hm => ?_) (fun hm => ?_)
  · refine j_iconst C 0 dX8_tellsBy_123 (by decide) ?_
    obtain rfl := Option.some.inj hm
    exact j_zret C O (by decide) dX8_tellsBy_124
  · refine j_aload_n C 3 dX8_tellsBy_16 rfl rfl ?_
    refine j_iload C 4 dX8_tellsBy_17 rfl ?_
    obtain ⟨c1, hm⟩ := ak_inv hm
    refine j_iald C c1 hm dX8_tellsBy_19 (fun hm => ?_)
    refine j_iload_n C 2 dX8_tellsBy_20 rfl rfl ?_
    refine j_if_icmpeq C 27 dX8_tellsBy_21 (by decide) hm (fun hm => ?_) (fun hm => ?_)
    · refine j_aload_n C 3 dX8_tellsBy_27 rfl rfl ?_
      refine j_iload C 4 dX8_tellsBy_28 rfl ?_
      refine j_iconst C 2 dX8_tellsBy_30 (by decide) ?_
      refine j_iadd C dX8_tellsBy_31 ?_
      obtain ⟨c2, hm⟩ := ak_inv hm
      refine j_iald C c2 hm dX8_tellsBy_32 (fun hm => ?_)
      refine j_istore C [(5, .int (hI h v3 (ix (v4 + ((2 : Int32)))))), (0, .ref (G.1 + 51)), (1, .ref (G.1 + v1)), (2, .int v2), (3, .ref (G.1 + v3)), (4, .int v4)] dX8_tellsBy_33 (by decide) rfl ?_
      refine j_aload_n C 4 dX8_tellsBy_35 rfl rfl ?_
      refine j_iload C 5 dX8_tellsBy_36 rfl ?_
      refine j_iconst C 3 dX8_tellsBy_38 (by decide) ?_
      refine j_iadd C dX8_tellsBy_39 ?_
      obtain ⟨c3, hm⟩ := ak_inv hm
      refine j_iald C c3 hm dX8_tellsBy_40 (fun hm => ?_)
      refine j_istore C [(6, .int (hI h v3 (ix (v4 + ((3 : Int32)))))), (5, .int (hI h v3 (ix (v4 + ((2 : Int32)))))), (0, .ref (G.1 + 51)), (1, .ref (G.1 + v1)), (2, .int v2), (3, .ref (G.1 + v3)), (4, .int v4)] dX8_tellsBy_41 (by decide) rfl ?_
      refine j_iload C 0 dX8_tellsBy_43 rfl ?_
      refine j_iload C 1 dX8_tellsBy_45 rfl ?_
      refine j_if_icmpeq C 74 dX8_tellsBy_47 (by decide) hm (fun hm => ?_) (fun hm => ?_)
      · refine j_sub (L' := [(0, .ref (G.1 + 51)), (1, .ref (G.1 + v1)), (2, .int v2), (3, .ref (G.1 + v3)), (4, .int v4), (5, .int (hI h v3 (ix (v4 + ((2 : Int32))))))]) [2, 3, 4, 5, 6, 1] rfl ?_
        exact w_Teller_tellsBy_74 C O hm
      · refine j_aload_n C 2 dX8_tellsBy_50 rfl rfl ?_
        refine j_aload_n C 3 dX8_tellsBy_51 rfl rfl ?_
        obtain ⟨c4, hm⟩ := ak_inv hm
        refine j_gN C f_X8_25 c4 hm dX8_tellsBy_52 (fun r5 hm => ?_)
        refine j_iload C 1 dX8_tellsBy_55 rfl ?_
        refine j_iload C 0 dX8_tellsBy_57 rfl ?_
        refine j_cV C l_X8_28 [.ref (G.1 + r5), .int (hI h v3 (ix (v4 + ((2 : Int32))))), .int (hI h v3 (ix (v4 + ((3 : Int32)))))] [] (fun u6 => some (.int u6.1)) (fun u6 => u6.2) (fun u6 => [.int u6.1]) n_51 hm (fun l u hu => c_Teller_worksOut hu) rfl (Nat.le_of_ble_eq_true rfl) rfl (Nat.le_of_ble_eq_true rfl) (Nat.le_of_ble_eq_true rfl) (fun _ => rfl) dX8_tellsBy_59 (fun u6 hm => ?_)
        refine j_ifeq C 78 dX8_tellsBy_62 (by decide) hm (fun hm => ?_) (fun hm => ?_)
        · refine j_sub (L' := [(0, .ref (G.1 + 51)), (1, .ref (G.1 + v1)), (2, .int v2), (3, .ref (G.1 + v3)), (4, .int v4), (5, .int (hI h v3 (ix (v4 + ((2 : Int32))))))]) [2, 3, 4, 5, 6, 1] rfl ?_
          exact w_Teller_tellsBy_78 C O hm
        · refine j_aload_n C 2 dX8_tellsBy_65 rfl rfl ?_
          refine j_gS C f_X8_13 n_51 q_51_1 dX8_tellsBy_66 ?_
          refine j_iconst C 0 dX8_tellsBy_69 (by decide) ?_
          refine j_iald C n_53 hm dX8_tellsBy_70 (fun hm => ?_)
          refine j_ifeq C 78 dX8_tellsBy_71 (by decide) hm (fun hm => ?_) (fun hm => ?_)
          · refine j_sub (L' := [(0, .ref (G.1 + 51)), (1, .ref (G.1 + v1)), (2, .int v2), (3, .ref (G.1 + v3)), (4, .int v4), (5, .int (hI h v3 (ix (v4 + ((2 : Int32))))))]) [2, 3, 4, 5, 6, 1] rfl ?_
            exact w_Teller_tellsBy_78 C O hm
          · refine j_sub (L' := [(0, .ref (G.1 + 51)), (1, .ref (G.1 + v1)), (2, .int v2), (3, .ref (G.1 + v3)), (4, .int v4), (5, .int (hI h v3 (ix (v4 + ((2 : Int32))))))]) [2, 3, 4, 5, 6, 1] rfl ?_
            exact w_Teller_tellsBy_74 C O hm
    · refine j_goto C 117 dX8_tellsBy_24 (by decide) ?_
      refine j_sub (L' := [(0, .ref (G.1 + 51)), (1, .ref (G.1 + v1)), (2, .int v2), (3, .ref (G.1 + v3)), (4, .int v4)]) [0, 1, 2, 3, 4] rfl ?_
      exact w_Teller_tellsBy_117 C O hm
theorem k_Teller_tellsBy_11 {G : jG} {X : jX} (C : jC G X cX8_tellsBy 8 RX8 3 125) {v1 : Nat} {v2 : Int32} {v3 : Nat} {v4 : Int32} {h : Hp} {out : (Int32 × Hp)} (O : (O_Teller_tellsBy G X) out) (hm : lp (fun q => s_Teller_tellsBy_11 q.1 q.2.1 q.2.2.1 q.2.2.2.1 q.2.2.2.2) (v1, v2, v3, v4, h) = some out) : J G X 11 [(0, .ref (G.1 + 51)), (1, .ref (G.1 + v1)), (2, .int v2), (3, .ref (G.1 + v3)), (4, .int v4)] [] h :=
  lp_ok (P := P_Teller_tellsBy_11 G X) (O := (O_Teller_tellsBy G X)) (fun q r hm O => w_Teller_tellsBy_11 C O hm) hm O
theorem w_Teller_tellsBy {G : jG} {X : jX} (C : jC G X cX8_tellsBy 8 RX8 3 125) {v1 : Nat} {v2 : Int32} {h : Hp} {out : (Int32 × Hp)} (O : (O_Teller_tellsBy G X) out) (hm : s_Teller_tellsBy v1 v2 h = some out) : J G X 0 [(0, .ref (G.1 + 51)), (1, .ref (G.1 + v1)), (2, .int v2)] [] h := by
  unfold s_Teller_tellsBy at hm
  refine j_aload_n C 1 dX8_tellsBy_0 rfl rfl ?_
  obtain ⟨c1, hm⟩ := ak_inv hm
  refine j_gN C f_X8_20 c1 hm dX8_tellsBy_1 (fun r2 hm => ?_)
  refine j_astore_n C [(3, .ref (G.1 + r2)), (0, .ref (G.1 + 51)), (1, .ref (G.1 + v1)), (2, .int v2)] dX8_tellsBy_4 rfl (by decide) rfl ?_
  refine j_aload_n C 0 dX8_tellsBy_5 rfl rfl ?_
  obtain ⟨c3, hm⟩ := ak_inv hm
  refine j_alen C (nI (ln h r2)) c3 rfl dX8_tellsBy_6 ?_
  refine j_iconst C 4 dX8_tellsBy_7 (by decide) ?_
  refine j_isub C dX8_tellsBy_8 ?_
  refine j_istore C [(4, .int ((nI (ln h r2)) - ((4 : Int32)))), (3, .ref (G.1 + r2)), (0, .ref (G.1 + 51)), (1, .ref (G.1 + v1)), (2, .int v2)] dX8_tellsBy_9 (by decide) rfl ?_
  refine j_sub (L' := [(0, .ref (G.1 + 51)), (1, .ref (G.1 + v1)), (2, .int v2), (3, .ref (G.1 + r2)), (4, .int ((nI (ln h r2)) - ((4 : Int32))))]) [2, 3, 4, 1, 0] rfl ?_
  exact k_Teller_tellsBy_11 C O hm
theorem c_Teller_tellsBy {G : jG} {l : Launch} {v1 : Nat} {v2 : Int32} {h : Hp} {out : (Int32 × Hp)} (hm : s_Teller_tellsBy v1 v2 h = some out) : mt G l yX8_tellsBy cX8_tellsBy 8 (some .boolean) 3 125 [.ref (G.1 + 51), .ref (G.1 + v1), .int v2] h (some (.int out.1)) out.2 :=
  mt_of (by decide) (Nat.le_of_ble_eq_true rfl) _ rfl (fun X I C O => w_Teller_tellsBy C O hm)
noncomputable def s_Water_gain_93 (v2 : Int32) (v4 : Int32) (v6 : Int32) (h : Hp) : Option (Int32 × Hp) :=
  ib ((1 : Int32)) 11 <| ib ((7 : Int32)) 11 <| lt (Int32.toInt64 ((hI h 4 (ix ((1 : Int32)))) + ((hI h 4 (ix ((7 : Int32)))) * v4))) fun x1 => lt ((((Int32.toInt64 v2) * (Int32.toInt64 (z_abs v2))) * x1) / ((1000 : Int64))) fun x2 => ib ((2 : Int32)) 11 <| lt (Int32.toInt64 (z_max ((1 : Int32)) (hI h 4 (ix ((2 : Int32)))))) fun x3 => ib ((0 : Int32)) 11 <| cnL x3 <| some (Int64.toInt32 (((Int32.toInt64 (v6 * (hI h 4 (ix ((0 : Int32)))))) - x2) / x3), h)
noncomputable def s_Water_gain (v1 : Int32) (v2 : Int32) (v3 : Int32) (v4 : Int32) (h : Hp) : Option (Int32 × Hp) :=
  ib (v1 / ((60 : Int32))) 24 <| (s_Water_levelIn ((0 : Int32)) v1 (hI h 55 (ix (v1 / ((60 : Int32))))) v3 h).bind fun u1 => (s_Water_levelIn ((1 : Int32)) v1 (hI h 55 (ix (v1 / ((60 : Int32))))) v3 h).bind fun u2 => (s_State_lawInForce h).bind fun u3 => nq u3 (s_Water_gain_93 v2 v4 (u1 - u2) h) fun r4 => (s_Teller_hear (u1 - u2) v2 v1 (hI h 55 (ix (v1 / ((60 : Int32))))) v3 ((0 : Int32)) v4 h).bind fun u6 => (s_Teller_tellsBy r4 ((0 : Int32)) u6).bind fun u7 => if u7.1 = 0 then
      s_Water_gain_93 v2 v4 (u1 - u2) u7.2
    else
      (s_Race_nearest (hI u7.2 51 2) ((-500 : Int32)) ((500 : Int32)) u7.2).bind fun u8 => some (u8, u7.2)
def O_Water_gain (G : jG) (X : jX) (out : (Int32 × Hp)) : Prop := jO G X (some .int) (some (.int out.1)) out.2
theorem w_Water_gain_93 {G : jG} {X : jX} (C : jC G X cX9_gain 14 RX9 4 152) {v2 : Int32} {v4 : Int32} {v6 : Int32} {h : Hp} {out : (Int32 × Hp)} (O : (O_Water_gain G X) out) (hm : s_Water_gain_93 v2 v4 v6 h = some out) : J G X 93 [(0, .ref (G.1 + 50)), (2, .int v2), (4, .int v4), (6, .int v6)] [] h := by
  unfold s_Water_gain_93 at hm
  refine j_aload_n C 0 dX9_gain_93 rfl rfl ?_
  refine j_gS C f_X9_58 n_50 q_50_0 dX9_gain_94 ?_
  refine j_gS C f_X9_90 n_1 q_1_2 dX9_gain_97 ?_
  refine j_iconst C 1 dX9_gain_100 (by decide) ?_
  refine j_iald C n_4 hm dX9_gain_101 (fun hm => ?_)
  refine j_aload_n C 0 dX9_gain_102 rfl rfl ?_
  refine j_gS C f_X9_58 n_50 q_50_0 dX9_gain_103 ?_
  refine j_gS C f_X9_90 n_1 q_1_2 dX9_gain_106 ?_
  refine j_bipush C 7 dX9_gain_109 (by decide) ?_
  refine j_iald C n_4 hm dX9_gain_111 (fun hm => ?_)
  refine j_iload C 2 dX9_gain_112 rfl ?_
  refine j_imul C dX9_gain_114 ?_
  refine j_iadd C dX9_gain_115 ?_
  refine j_i2l C dX9_gain_116 ?_
  refine j_nmL hm (fun x1 hm => ?_)
  refine j_lstore C [(8, .long x1), (0, .ref (G.1 + 50)), (2, .int v2), (4, .int v4), (6, .int v6)] dX9_gain_117 (by decide) rfl ?_
  refine j_iload_n C 2 dX9_gain_119 rfl rfl ?_
  refine j_i2l C dX9_gain_120 ?_
  refine j_iload_n C 2 dX9_gain_121 rfl rfl ?_
  refine j_mabs C wd_941 wd_942 wd_126 wd_943 (Nat.le_of_ble_eq_true rfl) (Nat.le_of_ble_eq_true rfl) dX9_gain_122 ?_
  refine j_i2l C dX9_gain_125 ?_
  refine j_lmul C dX9_gain_126 ?_
  refine j_lload C 0 dX9_gain_127 rfl ?_
  refine j_lmul C dX9_gain_129 ?_
  refine j_ldc2 C wd_944 dX9_gain_130 ?_
  refine j_ldiv C dX9_gain_133 (by decide) ?_
  refine j_nmL hm (fun x2 hm => ?_)
  refine j_lstore C [(10, .long x2), (8, .long x1), (0, .ref (G.1 + 50)), (2, .int v2), (4, .int v4), (6, .int v6)] dX9_gain_134 (by decide) rfl ?_
  refine j_iconst C 1 dX9_gain_136 (by decide) ?_
  refine j_aload_n C 2 dX9_gain_137 rfl rfl ?_
  refine j_gS C f_X9_58 n_50 q_50_0 dX9_gain_138 ?_
  refine j_gS C f_X9_90 n_1 q_1_2 dX9_gain_141 ?_
  refine j_iconst C 2 dX9_gain_144 (by decide) ?_
  refine j_iald C n_4 hm dX9_gain_145 (fun hm => ?_)
  refine j_mmax C wd_945 wd_936 wd_126 wd_937 (Nat.le_of_ble_eq_true rfl) (Nat.le_of_ble_eq_true rfl) dX9_gain_146 ?_
  refine j_i2l C dX9_gain_149 ?_
  refine j_nmL hm (fun x3 hm => ?_)
  refine j_lstore C [(12, .long x3), (10, .long x2), (8, .long x1), (0, .ref (G.1 + 50)), (2, .int v2), (4, .int v4), (6, .int v6)] dX9_gain_150 (by decide) rfl ?_
  refine j_iload C 6 dX9_gain_152 rfl ?_
  refine j_aload_n C 3 dX9_gain_154 rfl rfl ?_
  refine j_gS C f_X9_58 n_50 q_50_0 dX9_gain_155 ?_
  refine j_gS C f_X9_90 n_1 q_1_2 dX9_gain_158 ?_
  refine j_iconst C 0 dX9_gain_161 (by decide) ?_
  refine j_iald C n_4 hm dX9_gain_162 (fun hm => ?_)
  refine j_imul C dX9_gain_163 ?_
  refine j_i2l C dX9_gain_164 ?_
  refine j_lload C 1 dX9_gain_165 rfl ?_
  refine j_lsub C dX9_gain_167 ?_
  refine j_lload C 0 dX9_gain_168 rfl ?_
  obtain ⟨c4, hm⟩ := cnL_inv hm
  refine j_ldiv C dX9_gain_170 c4 ?_
  refine j_l2i C dX9_gain_171 ?_
  obtain rfl := Option.some.inj hm
  exact j_iret C O dX9_gain_172
theorem w_Water_gain {G : jG} {X : jX} (C : jC G X cX9_gain 14 RX9 4 152) {v1 : Int32} {v2 : Int32} {v3 : Int32} {v4 : Int32} {h : Hp} {out : (Int32 × Hp)} (O : (O_Water_gain G X) out) (hm : s_Water_gain v1 v2 v3 v4 h = some out) : J G X 0 [(0, .ref (G.1 + 50)), (1, .int v1), (2, .int v2), (3, .int v3), (4, .int v4)] [] h := by
  unfold s_Water_gain at hm
  refine j_aload_n C 0 dX9_gain_0 rfl rfl ?_
  refine j_gS C f_X9_22 n_50 q_50_3 dX9_gain_1 ?_
  refine j_iload_n C 1 dX9_gain_4 rfl rfl ?_
  refine j_bipush C 60 dX9_gain_5 (by decide) ?_
  refine j_idiv C dX9_gain_7 (by decide) ?_
  refine j_iald C n_55 hm dX9_gain_8 (fun hm => ?_)
  refine j_istore C [(5, .int (hI h 55 (ix (v1 / ((60 : Int32)))))), (0, .ref (G.1 + 50)), (1, .int v1), (2, .int v2), (3, .int v3), (4, .int v4)] dX9_gain_9 (by decide) rfl ?_
  refine j_aload_n C 1 dX9_gain_11 rfl rfl ?_
  refine j_iconst C 0 dX9_gain_12 (by decide) ?_
  refine j_iload_n C 2 dX9_gain_13 rfl rfl ?_
  refine j_iload C 0 dX9_gain_14 rfl ?_
  refine j_iload_n C 4 dX9_gain_16 rfl rfl ?_
  refine j_cV C l_X9_93 [.int ((0 : Int32)), .int v1, .int (hI h 55 (ix (v1 / ((60 : Int32))))), .int v3] [] (fun u1 => some (.int u1)) (fun _ => h) (fun u1 => [.int u1]) n_50 hm (fun l u hu => c_Water_levelIn hu) rfl (Nat.le_of_ble_eq_true rfl) rfl (Nat.le_of_ble_eq_true rfl) (Nat.le_of_ble_eq_true rfl) (fun _ => rfl) dX9_gain_17 (fun u1 hm => ?_)
  refine j_aload_n C 1 dX9_gain_20 rfl rfl ?_
  refine j_iconst C 1 dX9_gain_21 (by decide) ?_
  refine j_iload_n C 2 dX9_gain_22 rfl rfl ?_
  refine j_iload C 0 dX9_gain_23 rfl ?_
  refine j_iload_n C 4 dX9_gain_25 rfl rfl ?_
  refine j_cV C l_X9_93 [.int ((1 : Int32)), .int v1, .int (hI h 55 (ix (v1 / ((60 : Int32))))), .int v3] [.int u1] (fun u2 => some (.int u2)) (fun _ => h) (fun u2 => [.int u2, .int u1]) n_50 hm (fun l u hu => c_Water_levelIn hu) rfl (Nat.le_of_ble_eq_true rfl) rfl (Nat.le_of_ble_eq_true rfl) (Nat.le_of_ble_eq_true rfl) (fun _ => rfl) dX9_gain_26 (fun u2 hm => ?_)
  refine j_isub C dX9_gain_29 ?_
  refine j_istore C [(6, .int (u1 - u2)), (5, .int (hI h 55 (ix (v1 / ((60 : Int32)))))), (0, .ref (G.1 + 50)), (1, .int v1), (2, .int v2), (3, .int v3), (4, .int v4)] dX9_gain_30 (by decide) rfl ?_
  refine j_aload_n C 2 dX9_gain_32 rfl rfl ?_
  refine j_gS C f_X9_58 n_50 q_50_0 dX9_gain_33 ?_
  refine j_cV C l_X9_130 [] [] (fun u3 => some (rv G u3)) (fun _ => h) (fun u3 => [rv G u3]) n_1 hm (fun l u hu => c_State_lawInForce hu) rfl (Nat.le_of_ble_eq_true rfl) rfl (Nat.le_of_ble_eq_true rfl) (Nat.le_of_ble_eq_true rfl) (fun _ => rfl) dX9_gain_36 (fun u3 hm => ?_)
  refine j_astoreQ C [(7, rv G u3), (6, .int (u1 - u2)), (5, .int (hI h 55 (ix (v1 / ((60 : Int32)))))), (0, .ref (G.1 + 50)), (1, .int v1), (2, .int v2), (3, .int v3), (4, .int v4)] dX9_gain_39 (by decide) rfl ?_
  refine j_aloadQ C 0 dX9_gain_41 rfl ?_
  rcases nq_inv hm with ⟨c5, hm⟩ | ⟨r4, c5, hm⟩
  · rw [c5]
    refine j_ifnullN C 93 dX9_gain_43 (by decide) ?_
    refine j_sub (L' := [(0, .ref (G.1 + 50)), (2, .int v2), (4, .int v4), (6, .int (u1 - u2))]) [3, 5, 7, 1] rfl ?_
    exact w_Water_gain_93 C O hm
  · rw [c5]
    refine j_ifnull C dX9_gain_43 ?_
    refine j_aload_n C 3 dX9_gain_46 rfl rfl ?_
    refine j_gS C f_X9_12 n_50 q_50_1 dX9_gain_47 ?_
    refine j_iload C 1 dX9_gain_50 rfl ?_
    refine j_iload_n C 5 dX9_gain_52 rfl rfl ?_
    refine j_iload_n C 4 dX9_gain_53 rfl rfl ?_
    refine j_iload C 2 dX9_gain_54 rfl ?_
    refine j_iload_n C 6 dX9_gain_56 rfl rfl ?_
    refine j_iconst C 0 dX9_gain_57 (by decide) ?_
    refine j_iload C 7 dX9_gain_58 rfl ?_
    refine j_cV C l_X9_134 [.int (u1 - u2), .int v2, .int v1, .int (hI h 55 (ix (v1 / ((60 : Int32))))), .int v3, .int ((0 : Int32)), .int v4] [] (fun _ => none) (fun u6 => u6) (fun u6 => []) n_51 hm (fun l u hu => c_Teller_hear hu) rfl (Nat.le_of_ble_eq_true rfl) rfl (Nat.le_of_ble_eq_true rfl) (Nat.le_of_ble_eq_true rfl) (fun _ => rfl) dX9_gain_60 (fun u6 hm => ?_)
    refine j_aload_n C 3 dX9_gain_63 rfl rfl ?_
    refine j_gS C f_X9_12 n_50 q_50_1 dX9_gain_64 ?_
    refine j_aload C 0 dX9_gain_67 rfl ?_
    refine j_iconst C 0 dX9_gain_69 (by decide) ?_
    refine j_cV C l_X9_140 [.ref (G.1 + r4), .int ((0 : Int32))] [] (fun u7 => some (.int u7.1)) (fun u7 => u7.2) (fun u7 => [.int u7.1]) n_51 hm (fun l u hu => c_Teller_tellsBy hu) rfl (Nat.le_of_ble_eq_true rfl) rfl (Nat.le_of_ble_eq_true rfl) (Nat.le_of_ble_eq_true rfl) (fun _ => rfl) dX9_gain_70 (fun u7 hm => ?_)
    refine j_ifeq C 93 dX9_gain_73 (by decide) hm (fun hm => ?_) (fun hm => ?_)
    · refine j_sub (L' := [(0, .ref (G.1 + 50)), (2, .int v2), (4, .int v4), (6, .int (u1 - u2))]) [3, 5, 7, 1] rfl ?_
      exact w_Water_gain_93 C O hm
    · refine j_aload_n C 3 dX9_gain_76 rfl rfl ?_
      refine j_gS C f_X9_12 n_50 q_50_1 dX9_gain_77 ?_
      refine j_gI C f_X9_144 n_51 dX9_gain_80 ?_
      refine j_sipush C (-500 : Int32) dX9_gain_83 (by decide) ?_
      refine j_sipush C 500 dX9_gain_86 (by decide) ?_
      refine j_cN C l_X9_127 [.int (hI u7.2 51 2), .int ((-500 : Int32)), .int ((500 : Int32))] [] (fun u8 => some (.int u8)) (fun _ => u7.2) (fun u8 => [.int u8]) hm (fun l u hu => c_Race_nearest hu) rfl (Nat.le_of_ble_eq_true rfl) rfl (Nat.le_of_ble_eq_true rfl) (Nat.le_of_ble_eq_true rfl) (fun _ => rfl) dX9_gain_89 (fun u8 hm => ?_)
      obtain rfl := Option.some.inj hm
      exact j_iret C O dX9_gain_92
theorem c_Water_gain {G : jG} {l : Launch} {v1 : Int32} {v2 : Int32} {v3 : Int32} {v4 : Int32} {h : Hp} {out : (Int32 × Hp)} (hm : s_Water_gain v1 v2 v3 v4 h = some out) : mt G l yX9_gain cX9_gain 14 (some .int) 4 152 [.ref (G.1 + 50), .int v1, .int v2, .int v3, .int v4] h (some (.int out.1)) out.2 :=
  mt_of (by decide) (Nat.le_of_ble_eq_true rfl) _ rfl (fun X I C O => w_Water_gain C O hm)
noncomputable def s_Water_run_18 (v1 : Nat) (v2 : Int32) (v3 : Int32) (v4 : Int32) (v5 : Int32) (h : Hp) : Option ((Nat × Int32 × Int32 × Int32 × Int32 × Hp) ⊕ Hp) :=
  if ((1440 : Int32)) ≤ v5 then
    some (.inr h)
  else
    ak h v1 0 <| ib v5 (ln h v1) <| (s_Water_gain v5 v4 v2 v3 (sI h v1 (ix v5) v4)).bind fun u2 => (s_Race_nearest (v4 + u2.1) ((-2000 : Int32)) ((2000 : Int32)) u2.2).bind fun u3 => some (.inl (v1, v2, v3, u3, (v5 + (1 : Int32)), u2.2))
noncomputable def s_Water_run (v1 : Nat) (v2 : Int32) (v3 : Int32) (h : Hp) : Option Hp :=
  (s_Water_freshenTides h).bind fun u1 => ib ((4 : Int32)) 11 <| lp (fun q => s_Water_run_18 q.1 q.2.1 q.2.2.1 q.2.2.2.1 q.2.2.2.2.1 q.2.2.2.2.2) (v1, v2, v3, (hI u1 4 (ix ((4 : Int32)))), ((0 : Int32)), u1)
def O_Water_run (G : jG) (X : jX) (out : Hp) : Prop := jO G X (none) none out
def P_Water_run_18 (G : jG) (X : jX) (q : Nat × Int32 × Int32 × Int32 × Int32 × Hp) : Prop := J G X 18 [(0, .ref (G.1 + 50)), (1, .ref (G.1 + q.1)), (2, .int q.2.1), (3, .int q.2.2.1), (4, .int q.2.2.2.1), (5, .int q.2.2.2.2.1)] [] q.2.2.2.2.2
def O_Water_run_18 (G : jG) (X : jX) (t : ((Nat × Int32 × Int32 × Int32 × Int32 × Hp) ⊕ Hp)) : Prop := Sum.elim (P_Water_run_18 G X) (O_Water_run G X) t
theorem w_Water_run_18 {G : jG} {X : jX} (C : jC G X cX9_run 6 RX9 5 185) {v1 : Nat} {v2 : Int32} {v3 : Int32} {v4 : Int32} {v5 : Int32} {h : Hp} {out : ((Nat × Int32 × Int32 × Int32 × Int32 × Hp) ⊕ Hp)} (O : (O_Water_run_18 G X) out) (hm : s_Water_run_18 v1 v2 v3 v4 v5 h = some out) : J G X 18 [(0, .ref (G.1 + 50)), (1, .ref (G.1 + v1)), (2, .int v2), (3, .int v3), (4, .int v4), (5, .int v5)] [] h := by
  unfold s_Water_run_18 at hm
  refine j_iload C 5 dX9_run_18 rfl ?_
  refine j_sipush C 1440 dX9_run_20 (by decide) ?_
  refine j_if_icmpge C 62 dX9_run_23 (by decide) hm (fun hm => ?_) (fun hm => ?_)
  · obtain rfl := Option.some.inj hm
    exact j_vret C O dX9_run_62
  · refine j_aload_n C 1 dX9_run_26 rfl rfl ?_
    refine j_iload C 5 dX9_run_27 rfl ?_
    refine j_iload C 4 dX9_run_29 rfl ?_
    obtain ⟨c1, hm⟩ := ak_inv hm
    refine j_iast C c1 hm dX9_run_31 (fun hm => ?_)
    refine j_iload C 4 dX9_run_32 rfl ?_
    refine j_aload_n C 0 dX9_run_34 rfl rfl ?_
    refine j_iload C 5 dX9_run_35 rfl ?_
    refine j_iload C 4 dX9_run_37 rfl ?_
    refine j_iload_n C 2 dX9_run_39 rfl rfl ?_
    refine j_iload_n C 3 dX9_run_40 rfl rfl ?_
    refine j_cV C l_X9_124 [.int v5, .int v4, .int v2, .int v3] [.int v4] (fun u2 => some (.int u2.1)) (fun u2 => u2.2) (fun u2 => [.int u2.1, .int v4]) n_50 hm (fun l u hu => c_Water_gain hu) rfl (Nat.le_of_ble_eq_true rfl) rfl (Nat.le_of_ble_eq_true rfl) (Nat.le_of_ble_eq_true rfl) (fun _ => rfl) dX9_run_41 (fun u2 hm => ?_)
    refine j_iadd C dX9_run_44 ?_
    refine j_sipush C (-2000 : Int32) dX9_run_45 (by decide) ?_
    refine j_sipush C 2000 dX9_run_48 (by decide) ?_
    refine j_cN C l_X9_127 [.int (v4 + u2.1), .int ((-2000 : Int32)), .int ((2000 : Int32))] [] (fun u3 => some (.int u3)) (fun _ => u2.2) (fun u3 => [.int u3]) hm (fun l u hu => c_Race_nearest hu) rfl (Nat.le_of_ble_eq_true rfl) rfl (Nat.le_of_ble_eq_true rfl) (Nat.le_of_ble_eq_true rfl) (fun _ => rfl) dX9_run_51 (fun u3 hm => ?_)
    refine j_istore C [(4, .int u3), (0, .ref (G.1 + 50)), (1, .ref (G.1 + v1)), (2, .int v2), (3, .int v3), (5, .int v5)] dX9_run_54 (by decide) rfl ?_
    refine j_iinc C 5 [(5, .int (v5 + (1 : Int32))), (4, .int u3), (0, .ref (G.1 + 50)), (1, .ref (G.1 + v1)), (2, .int v2), (3, .int v3)] dX9_run_56 rfl (add_lit (by decide)) (by decide) rfl ?_
    refine j_goto C 18 dX9_run_59 (by decide) ?_
    obtain rfl := Option.some.inj hm
    refine j_sub (L' := [(0, .ref (G.1 + 50)), (1, .ref (G.1 + v1)), (2, .int v2), (3, .int v3), (4, .int u3), (5, .int (v5 + (1 : Int32)))]) [2, 3, 4, 5, 1, 0] rfl ?_
    exact O
theorem k_Water_run_18 {G : jG} {X : jX} (C : jC G X cX9_run 6 RX9 5 185) {v1 : Nat} {v2 : Int32} {v3 : Int32} {v4 : Int32} {v5 : Int32} {h : Hp} {out : Hp} (O : (O_Water_run G X) out) (hm : lp (fun q => s_Water_run_18 q.1 q.2.1 q.2.2.1 q.2.2.2.1 q.2.2.2.2.1 q.2.2.2.2.2) (v1, v2, v3, v4, v5, h) = some out) : J G X 18 [(0, .ref (G.1 + 50)), (1, .ref (G.1 + v1)), (2, .int v2), (3, .int v3), (4, .int v4), (5, .int v5)] [] h :=
  lp_ok (P := P_Water_run_18 G X) (O := (O_Water_run G X)) (fun q r hm O => w_Water_run_18 C O hm) hm O
theorem w_Water_run {G : jG} {X : jX} (C : jC G X cX9_run 6 RX9 5 185) {v1 : Nat} {v2 : Int32} {v3 : Int32} {h : Hp} {out : Hp} (O : (O_Water_run G X) out) (hm : s_Water_run v1 v2 v3 h = some out) : J G X 0 [(0, .ref (G.1 + 50)), (1, .ref (G.1 + v1)), (2, .int v2), (3, .int v3)] [] h := by
  unfold s_Water_run at hm
  refine j_aload_n C 0 dX9_run_0 rfl rfl ?_
  refine j_cV C l_X9_121 [] [] (fun _ => none) (fun u1 => u1) (fun u1 => []) n_50 hm (fun l u hu => c_Water_freshenTides hu) rfl (Nat.le_of_ble_eq_true rfl) rfl (Nat.le_of_ble_eq_true rfl) (Nat.le_of_ble_eq_true rfl) (fun _ => rfl) dX9_run_1 (fun u1 hm => ?_)
  refine j_aload_n C 0 dX9_run_4 rfl rfl ?_
  refine j_gS C f_X9_58 n_50 q_50_0 dX9_run_5 ?_
  refine j_gS C f_X9_90 n_1 q_1_2 dX9_run_8 ?_
  refine j_iconst C 4 dX9_run_11 (by decide) ?_
  refine j_iald C n_4 hm dX9_run_12 (fun hm => ?_)
  refine j_istore C [(4, .int (hI u1 4 (ix ((4 : Int32))))), (0, .ref (G.1 + 50)), (1, .ref (G.1 + v1)), (2, .int v2), (3, .int v3)] dX9_run_13 (by decide) rfl ?_
  refine j_iconst C 0 dX9_run_15 (by decide) ?_
  refine j_istore C [(5, .int ((0 : Int32))), (4, .int (hI u1 4 (ix ((4 : Int32))))), (0, .ref (G.1 + 50)), (1, .ref (G.1 + v1)), (2, .int v2), (3, .int v3)] dX9_run_16 (by decide) rfl ?_
  refine j_sub (L' := [(0, .ref (G.1 + 50)), (1, .ref (G.1 + v1)), (2, .int v2), (3, .int v3), (4, .int (hI u1 4 (ix ((4 : Int32))))), (5, .int ((0 : Int32)))]) [2, 3, 4, 5, 1, 0] rfl ?_
  exact k_Water_run_18 C O hm
theorem c_Water_run {G : jG} {l : Launch} {v1 : Nat} {v2 : Int32} {v3 : Int32} {h : Hp} {out : Hp} (hm : s_Water_run v1 v2 v3 h = some out) : mt G l yX9_run cX9_run 6 (none) 5 185 [.ref (G.1 + 50), .ref (G.1 + v1), .int v2, .int v3] h none out :=
  mt_of (by decide) (Nat.le_of_ble_eq_true rfl) _ rfl (fun X I C O => w_Water_run C O hm)
noncomputable def s_Water_freshenToday_48 (h : Hp) : Option Hp :=
  some h
noncomputable def s_Water_freshenToday (h : Hp) : Option Hp :=
  if (hI h 50 10) = 0 then
    ib ((9 : Int32)) 11 <| (s_Arr_fillI 55 (hI h 4 (ix ((9 : Int32)))) h).bind fun u1 => ib ((10 : Int32)) 11 <| (s_Water_run 57 (hI u1 4 (ix ((10 : Int32)))) ((0 : Int32)) u1).bind fun u2 => s_Water_freshenToday_48 (sI u2 50 10 ((1 : Int32)))
  else
    s_Water_freshenToday_48 h
def O_Water_freshenToday (G : jG) (X : jX) (out : Hp) : Prop := jO G X (none) none out
theorem w_Water_freshenToday_48 {G : jG} {X : jX} (C : jC G X cX9_freshenToday 1 RX9 6 210) {h : Hp} {out : Hp} (O : (O_Water_freshenToday G X) out) (hm : s_Water_freshenToday_48 h = some out) : J G X 48 [] [] h := by
  unfold s_Water_freshenToday_48 at hm
  obtain rfl := Option.some.inj hm
  exact j_vret C O dX9_freshenToday_48
theorem w_Water_freshenToday {G : jG} {X : jX} (C : jC G X cX9_freshenToday 1 RX9 6 210) {h : Hp} {out : Hp} (O : (O_Water_freshenToday G X) out) (hm : s_Water_freshenToday h = some out) : J G X 0 [(0, .ref (G.1 + 50))] [] h := by
  unfold s_Water_freshenToday at hm
  refine j_aload_n C 0 dX9_freshenToday_0 rfl rfl ?_
  refine j_gZ C f_X9_45 n_50 dX9_freshenToday_1 ?_
  refine j_ifne C 48 dX9_freshenToday_4 (by decide) hm (fun hm => ?_) (fun hm => ?_)
  · refine j_aload_n C 0 dX9_freshenToday_7 rfl rfl ?_
    refine j_gS C f_X9_22 n_50 q_50_3 dX9_freshenToday_8 ?_
    refine j_aload_n C 0 dX9_freshenToday_11 rfl rfl ?_
    refine j_gS C f_X9_58 n_50 q_50_0 dX9_freshenToday_12 ?_
    refine j_gS C f_X9_90 n_1 q_1_2 dX9_freshenToday_15 ?_
    refine j_bipush C 9 dX9_freshenToday_18 (by decide) ?_
    refine j_iald C n_4 hm dX9_freshenToday_20 (fun hm => ?_)
    refine j_cS C l_X9_97 [.ref (G.1 + 55), .int (hI h 4 (ix ((9 : Int32))))] [] (fun _ => none) (fun u1 => u1) (fun u1 => []) hm (fun l u hu => c_Arr_fillI hu) rfl (Nat.le_of_ble_eq_true rfl) rfl (Nat.le_of_ble_eq_true rfl) (Nat.le_of_ble_eq_true rfl) (fun _ => rfl) dX9_freshenToday_21 (fun u1 hm => ?_)
    refine j_aload_n C 0 dX9_freshenToday_24 rfl rfl ?_
    refine j_aload_n C 0 dX9_freshenToday_25 rfl rfl ?_
    refine j_gS C f_X9_29 n_50 q_50_5 dX9_freshenToday_26 ?_
    refine j_aload_n C 0 dX9_freshenToday_29 rfl rfl ?_
    refine j_gS C f_X9_58 n_50 q_50_0 dX9_freshenToday_30 ?_
    refine j_gS C f_X9_90 n_1 q_1_2 dX9_freshenToday_33 ?_
    refine j_bipush C 10 dX9_freshenToday_36 (by decide) ?_
    refine j_iald C n_4 hm dX9_freshenToday_38 (fun hm => ?_)
    refine j_iconst C 0 dX9_freshenToday_39 (by decide) ?_
    refine j_cV C l_X9_100 [.ref (G.1 + 57), .int (hI u1 4 (ix ((10 : Int32)))), .int ((0 : Int32))] [] (fun _ => none) (fun u2 => u2) (fun u2 => []) n_50 hm (fun l u hu => c_Water_run hu) rfl (Nat.le_of_ble_eq_true rfl) rfl (Nat.le_of_ble_eq_true rfl) (Nat.le_of_ble_eq_true rfl) (fun _ => rfl) dX9_freshenToday_40 (fun u2 hm => ?_)
    refine j_aload_n C 0 dX9_freshenToday_43 rfl rfl ?_
    refine j_iconst C 1 dX9_freshenToday_44 (by decide) ?_
    refine j_pZ C f_X9_45 n_50 (by decide) dX9_freshenToday_45 ?_
    refine j_sub (L' := []) [] rfl ?_
    exact w_Water_freshenToday_48 C O hm
  · refine j_sub (L' := []) [] rfl ?_
    exact w_Water_freshenToday_48 C O hm
theorem c_Water_freshenToday {G : jG} {l : Launch} {h : Hp} {out : Hp} (hm : s_Water_freshenToday h = some out) : mt G l yX9_freshenToday cX9_freshenToday 1 (none) 6 210 [.ref (G.1 + 50)] h none out :=
  mt_of (by decide) (Nat.le_of_ble_eq_true rfl) _ rfl (fun X I C O => w_Water_freshenToday C O hm)
noncomputable def s_Race_begins_57 (s0 : Int32) (h : Hp) : Option (Int32 × Hp) :=
  some (s0, h)
noncomputable def s_Race_begins (v1 : Int32) (h : Hp) : Option (Int32 × Hp) :=
  (s_Race_isWithin v1 ((0 : Int32)) ((hI h 1 17) - ((1 : Int32))) h).bind fun u1 => if u1 = 0 then
    some ((-1 : Int32), h)
  else
    (s_Water_freshenToday h).bind fun u2 => (s_Locks_freshen u2).bind fun u3 => if (hI u3 69 7) = ((-1 : Int32)) then
      s_Race_begins_57 ((-1 : Int32)) u3
    else
      ib v1 6 <| s_Race_begins_57 (hI u3 73 (ix v1)) u3
def O_Race_begins (G : jG) (X : jX) (out : (Int32 × Hp)) : Prop := jO G X (some .int) (some (.int out.1)) out.2
theorem w_Race_begins_57 {G : jG} {X : jX} (C : jC G X cX11_begins 2 RX11 13 399) {s0 : Int32} {h : Hp} {out : (Int32 × Hp)} (O : (O_Race_begins G X) out) (hm : s_Race_begins_57 s0 h = some out) : J G X 57 [] [.int s0] h := by
  unfold s_Race_begins_57 at hm
  obtain rfl := Option.some.inj hm
  exact j_iret C O dX11_begins_57
theorem w_Race_begins {G : jG} {X : jX} (C : jC G X cX11_begins 2 RX11 13 399) {v1 : Int32} {h : Hp} {out : (Int32 × Hp)} (O : (O_Race_begins G X) out) (hm : s_Race_begins v1 h = some out) : J G X 0 [(0, .ref (G.1 + 0)), (1, .int v1)] [] h := by
  unfold s_Race_begins at hm
  refine j_iload_n C 1 dX11_begins_0 rfl rfl ?_
  refine j_iconst C 0 dX11_begins_1 (by decide) ?_
  refine j_aload_n C 0 dX11_begins_2 rfl rfl ?_
  refine j_gS C f_X11_10 n_0 q_0_0 dX11_begins_3 ?_
  refine j_gI C f_X11_273 n_1 dX11_begins_6 ?_
  refine j_iconst C 1 dX11_begins_9 (by decide) ?_
  refine j_isub C dX11_begins_10 ?_
  refine j_cS C l_X11_102 [.int v1, .int ((0 : Int32)), .int ((hI h 1 17) - ((1 : Int32)))] [] (fun u1 => some (.int u1)) (fun _ => h) (fun u1 => [.int u1]) hm (fun l u hu => c_Race_isWithin hu) rfl (Nat.le_of_ble_eq_true rfl) rfl (Nat.le_of_ble_eq_true rfl) (Nat.le_of_ble_eq_true rfl) (fun _ => rfl) dX11_begins_11 (fun u1 hm => ?_)
  refine j_ifne C 19 dX11_begins_14 (by decide) hm (fun hm => ?_) (fun hm => ?_)
  · refine j_iconst C (-1 : Int32) dX11_begins_17 (by decide) ?_
    obtain rfl := Option.some.inj hm
    exact j_iret C O dX11_begins_18
  · refine j_aload_n C 0 dX11_begins_19 rfl rfl ?_
    refine j_gS C f_X11_45 n_0 q_0_5 dX11_begins_20 ?_
    refine j_cV C l_X11_194 [] [] (fun _ => none) (fun u2 => u2) (fun u2 => []) n_50 hm (fun l u hu => c_Water_freshenToday hu) rfl (Nat.le_of_ble_eq_true rfl) rfl (Nat.le_of_ble_eq_true rfl) (Nat.le_of_ble_eq_true rfl) (fun _ => rfl) dX11_begins_23 (fun u2 hm => ?_)
    refine j_aload_n C 0 dX11_begins_26 rfl rfl ?_
    refine j_gS C f_X11_61 n_0 q_0_7 dX11_begins_27 ?_
    refine j_cV C l_X11_289 [] [] (fun _ => none) (fun u3 => u3) (fun u3 => []) n_69 hm (fun l u hu => c_Locks_freshen hu) rfl (Nat.le_of_ble_eq_true rfl) rfl (Nat.le_of_ble_eq_true rfl) (Nat.le_of_ble_eq_true rfl) (fun _ => rfl) dX11_begins_30 (fun u3 hm => ?_)
    refine j_aload_n C 0 dX11_begins_33 rfl rfl ?_
    refine j_gS C f_X11_61 n_0 q_0_7 dX11_begins_34 ?_
    refine j_gI C f_X11_292 n_69 dX11_begins_37 ?_
    refine j_iconst C (-1 : Int32) dX11_begins_40 (by decide) ?_
    refine j_if_icmpne C 48 dX11_begins_41 (by decide) hm (fun hm => ?_) (fun hm => ?_)
    · refine j_iconst C (-1 : Int32) dX11_begins_44 (by decide) ?_
      refine j_goto C 57 dX11_begins_45 (by decide) ?_
      refine j_sub (L' := []) [] rfl ?_
      exact w_Race_begins_57 C O hm
    · refine j_aload_n C 0 dX11_begins_48 rfl rfl ?_
      refine j_gS C f_X11_61 n_0 q_0_7 dX11_begins_49 ?_
      refine j_gS C f_X11_298 n_69 q_69_6 dX11_begins_52 ?_
      refine j_iload_n C 1 dX11_begins_55 rfl rfl ?_
      refine j_iald C n_73 hm dX11_begins_56 (fun hm => ?_)
      refine j_sub (L' := []) [] rfl ?_
      exact w_Race_begins_57 C O hm
theorem c_Race_begins {G : jG} {l : Launch} {v1 : Int32} {h : Hp} {out : (Int32 × Hp)} (hm : s_Race_begins v1 h = some out) : mt G l yX11_begins cX11_begins 2 (some .int) 13 399 [.ref (G.1 + 0), .int v1] h (some (.int out.1)) out.2 :=
  mt_of (by decide) (Nat.le_of_ble_eq_true rfl) _ rfl (fun X I C O => w_Race_begins C O hm)
noncomputable def s_Race_boat_21 (h : Hp) : Option (Int32 × Hp) :=
  (s_Race_refuse ((-1 : Int32)) h).bind fun u1 => some (u1.1, u1.2)
noncomputable def s_Race_boat (v1 : Int32) (v2 : Int32) (h : Hp) : Option (Int32 × Hp) :=
  (s_Race_isWithin v1 ((1 : Int32)) ((1500 : Int32)) h).bind fun u1 => if u1 = 0 then
    s_Race_boat_21 h
  else
    (s_Race_isWithin v2 ((0 : Int32)) ((99 : Int32)) h).bind fun u2 => if u2 = 0 then
      s_Race_boat_21 h
    else
      if (hI h 1 15) < ((6 : Int32)) then
        ib (hI h 1 15) 6 <| lt (sI h 7 (ix (hI h 1 15)) v1) fun h3 => ib (hI h3 1 15) 6 <| lt (sI h3 8 (ix (hI h3 1 15)) v2) fun h4 => lt (sI h4 1 15 ((hI h4 1 15) + ((1 : Int32)))) fun h5 => (s_Race_grant ((hI h5 1 15) - ((1 : Int32))) h5).bind fun u6 => some (u6.1, u6.2)
      else
        (s_Race_refuse ((-5 : Int32)) h).bind fun u7 => some (u7.1, u7.2)
def O_Race_boat (G : jG) (X : jX) (out : (Int32 × Hp)) : Prop := jO G X (some .int) (some (.int out.1)) out.2
theorem w_Race_boat_21 {G : jG} {X : jX} (C : jC G X cX11_boat 3 RX11 2 92) {h : Hp} {out : (Int32 × Hp)} (O : (O_Race_boat G X) out) (hm : s_Race_boat_21 h = some out) : J G X 21 [(0, .ref (G.1 + 0))] [] h := by
  unfold s_Race_boat_21 at hm
  refine j_aload_n C 0 dX11_boat_21 rfl rfl ?_
  refine j_iconst C (-1 : Int32) dX11_boat_22 (by decide) ?_
  refine j_cV C l_X11_112 [.int ((-1 : Int32))] [] (fun u1 => some (.int u1.1)) (fun u1 => u1.2) (fun u1 => [.int u1.1]) n_0 hm (fun l u hu => c_Race_refuse hu) rfl (Nat.le_of_ble_eq_true rfl) rfl (Nat.le_of_ble_eq_true rfl) (Nat.le_of_ble_eq_true rfl) (fun _ => rfl) dX11_boat_23 (fun u1 hm => ?_)
  obtain rfl := Option.some.inj hm
  exact j_iret C O dX11_boat_26
theorem w_Race_boat {G : jG} {X : jX} (C : jC G X cX11_boat 3 RX11 2 92) {v1 : Int32} {v2 : Int32} {h : Hp} {out : (Int32 × Hp)} (O : (O_Race_boat G X) out) (hm : s_Race_boat v1 v2 h = some out) : J G X 0 [(0, .ref (G.1 + 0)), (1, .int v1), (2, .int v2)] [] h := by
  unfold s_Race_boat at hm
  refine j_iload_n C 1 dX11_boat_0 rfl rfl ?_
  refine j_iconst C 1 dX11_boat_1 (by decide) ?_
  refine j_sipush C 1500 dX11_boat_2 (by decide) ?_
  refine j_cS C l_X11_102 [.int v1, .int ((1 : Int32)), .int ((1500 : Int32))] [] (fun u1 => some (.int u1)) (fun _ => h) (fun u1 => [.int u1]) hm (fun l u hu => c_Race_isWithin hu) rfl (Nat.le_of_ble_eq_true rfl) rfl (Nat.le_of_ble_eq_true rfl) (Nat.le_of_ble_eq_true rfl) (fun _ => rfl) dX11_boat_5 (fun u1 hm => ?_)
  refine j_ifeq C 21 dX11_boat_8 (by decide) hm (fun hm => ?_) (fun hm => ?_)
  · refine j_sub (L' := [(0, .ref (G.1 + 0))]) [0] rfl ?_
    exact w_Race_boat_21 C O hm
  · refine j_iload_n C 2 dX11_boat_11 rfl rfl ?_
    refine j_iconst C 0 dX11_boat_12 (by decide) ?_
    refine j_bipush C 99 dX11_boat_13 (by decide) ?_
    refine j_cS C l_X11_102 [.int v2, .int ((0 : Int32)), .int ((99 : Int32))] [] (fun u2 => some (.int u2)) (fun _ => h) (fun u2 => [.int u2]) hm (fun l u hu => c_Race_isWithin hu) rfl (Nat.le_of_ble_eq_true rfl) rfl (Nat.le_of_ble_eq_true rfl) (Nat.le_of_ble_eq_true rfl) (fun _ => rfl) dX11_boat_15 (fun u2 hm => ?_)
    refine j_ifne C 27 dX11_boat_18 (by decide) hm (fun hm => ?_) (fun hm => ?_)
    · refine j_sub (L' := [(0, .ref (G.1 + 0))]) [0] rfl ?_
      exact w_Race_boat_21 C O hm
    · refine j_aload_n C 0 dX11_boat_27 rfl rfl ?_
      refine j_gS C f_X11_10 n_0 q_0_0 dX11_boat_28 ?_
      refine j_gI C f_X11_229 n_1 dX11_boat_31 ?_
      refine j_bipush C 6 dX11_boat_34 (by decide) ?_
      refine j_if_icmplt C 46 dX11_boat_36 (by decide) hm (fun hm => ?_) (fun hm => ?_)
      · refine j_aload_n C 0 dX11_boat_46 rfl rfl ?_
        refine j_gS C f_X11_10 n_0 q_0_0 dX11_boat_47 ?_
        refine j_gS C f_X11_232 n_1 q_1_5 dX11_boat_50 ?_
        refine j_aload_n C 0 dX11_boat_53 rfl rfl ?_
        refine j_gS C f_X11_10 n_0 q_0_0 dX11_boat_54 ?_
        refine j_gI C f_X11_229 n_1 dX11_boat_57 ?_
        refine j_iload_n C 1 dX11_boat_60 rfl rfl ?_
        refine j_iast C n_7 hm dX11_boat_61 (fun hm => ?_)
        refine j_aload_n C 0 dX11_boat_62 rfl rfl ?_
        refine j_nmH hm (fun h3 hm => ?_)
        refine j_gS C f_X11_10 n_0 q_0_0 dX11_boat_63 ?_
        refine j_gS C f_X11_235 n_1 q_1_6 dX11_boat_66 ?_
        refine j_aload_n C 0 dX11_boat_69 rfl rfl ?_
        refine j_gS C f_X11_10 n_0 q_0_0 dX11_boat_70 ?_
        refine j_gI C f_X11_229 n_1 dX11_boat_73 ?_
        refine j_iload_n C 2 dX11_boat_76 rfl rfl ?_
        refine j_iast C n_8 hm dX11_boat_77 (fun hm => ?_)
        refine j_aload_n C 0 dX11_boat_78 rfl rfl ?_
        refine j_nmH hm (fun h4 hm => ?_)
        refine j_gS C f_X11_10 n_0 q_0_0 dX11_boat_79 ?_
        refine j_dup C dX11_boat_82 rfl ?_
        refine j_gI C f_X11_229 n_1 dX11_boat_83 ?_
        refine j_iconst C 1 dX11_boat_86 (by decide) ?_
        refine j_iadd C dX11_boat_87 ?_
        refine j_pI C f_X11_229 n_1 dX11_boat_88 ?_
        refine j_aload_n C 0 dX11_boat_91 rfl rfl ?_
        refine j_aload_n C 0 dX11_boat_92 rfl rfl ?_
        refine j_nmH hm (fun h5 hm => ?_)
        refine j_gS C f_X11_10 n_0 q_0_0 dX11_boat_93 ?_
        refine j_gI C f_X11_229 n_1 dX11_boat_96 ?_
        refine j_iconst C 1 dX11_boat_99 (by decide) ?_
        refine j_isub C dX11_boat_100 ?_
        refine j_cV C l_X11_122 [.int ((hI h5 1 15) - ((1 : Int32)))] [] (fun u6 => some (.int u6.1)) (fun u6 => u6.2) (fun u6 => [.int u6.1]) n_0 hm (fun l u hu => c_Race_grant hu) rfl (Nat.le_of_ble_eq_true rfl) rfl (Nat.le_of_ble_eq_true rfl) (Nat.le_of_ble_eq_true rfl) (fun _ => rfl) dX11_boat_101 (fun u6 hm => ?_)
        obtain rfl := Option.some.inj hm
        exact j_iret C O dX11_boat_104
      · refine j_aload_n C 0 dX11_boat_39 rfl rfl ?_
        refine j_bipush C (-5 : Int32) dX11_boat_40 (by decide) ?_
        refine j_cV C l_X11_112 [.int ((-5 : Int32))] [] (fun u7 => some (.int u7.1)) (fun u7 => u7.2) (fun u7 => [.int u7.1]) n_0 hm (fun l u hu => c_Race_refuse hu) rfl (Nat.le_of_ble_eq_true rfl) rfl (Nat.le_of_ble_eq_true rfl) (Nat.le_of_ble_eq_true rfl) (fun _ => rfl) dX11_boat_42 (fun u7 hm => ?_)
        obtain rfl := Option.some.inj hm
        exact j_iret C O dX11_boat_45
theorem c_Race_boat {G : jG} {l : Launch} {v1 : Int32} {v2 : Int32} {h : Hp} {out : (Int32 × Hp)} (hm : s_Race_boat v1 v2 h = some out) : mt G l yX11_boat cX11_boat 3 (some .int) 2 92 [.ref (G.1 + 0), .int v1, .int v2] h (some (.int out.1)) out.2 :=
  mt_of (by decide) (Nat.le_of_ble_eq_true rfl) _ rfl (fun X I C O => w_Race_boat C O hm)
noncomputable def s_Race_isBoat (v1 : Int32) (h : Hp) : Option Int32 :=
  (s_Race_isWithin v1 ((0 : Int32)) ((hI h 1 15) - ((1 : Int32))) h).bind fun u1 => bz u1 <| some (u1)
def O_Race_isBoat (G : jG) (X : jX) (h : Hp) (out : Int32) : Prop := jO G X (some .boolean) (some (.int out)) h
theorem w_Race_isBoat {G : jG} {X : jX} (C : jC G X cX11_isBoat 2 RX11 2 92) {v1 : Int32} {h : Hp} {out : Int32} (O : (O_Race_isBoat G X h) out) (hm : s_Race_isBoat v1 h = some out) : J G X 0 [(0, .ref (G.1 + 0)), (1, .int v1)] [] h := by
  unfold s_Race_isBoat at hm
  refine j_iload_n C 1 dX11_isBoat_0 rfl rfl ?_
  refine j_iconst C 0 dX11_isBoat_1 (by decide) ?_
  refine j_aload_n C 0 dX11_isBoat_2 rfl rfl ?_
  refine j_gS C f_X11_10 n_0 q_0_0 dX11_isBoat_3 ?_
  refine j_gI C f_X11_229 n_1 dX11_isBoat_6 ?_
  refine j_iconst C 1 dX11_isBoat_9 (by decide) ?_
  refine j_isub C dX11_isBoat_10 ?_
  refine j_cS C l_X11_102 [.int v1, .int ((0 : Int32)), .int ((hI h 1 15) - ((1 : Int32)))] [] (fun u1 => some (.int u1)) (fun _ => h) (fun u1 => [.int u1]) hm (fun l u hu => c_Race_isWithin hu) rfl (Nat.le_of_ble_eq_true rfl) rfl (Nat.le_of_ble_eq_true rfl) (Nat.le_of_ble_eq_true rfl) (fun _ => rfl) dX11_isBoat_11 (fun u1 hm => ?_)
  obtain ⟨cz, hm⟩ := bz_inv hm
  obtain rfl := Option.some.inj hm
  exact j_zret C O cz dX11_isBoat_14
theorem c_Race_isBoat {G : jG} {l : Launch} {v1 : Int32} {h : Hp} {out : Int32} (hm : s_Race_isBoat v1 h = some out) : mt G l yX11_isBoat cX11_isBoat 2 (some .boolean) 2 92 [.ref (G.1 + 0), .int v1] h (some (.int out)) h :=
  mt_of (by decide) (Nat.le_of_ble_eq_true rfl) _ rfl (fun X I C O => w_Race_isBoat C O hm)
noncomputable def s_Race_isCell (v0 : Int32) (h : Hp) : Option Int32 :=
  (s_Race_isWithin v0 ((0 : Int32)) ((49 : Int32)) h).bind fun u1 => bz u1 <| some (u1)
def O_Race_isCell (G : jG) (X : jX) (h : Hp) (out : Int32) : Prop := jO G X (some .boolean) (some (.int out)) h
theorem w_Race_isCell {G : jG} {X : jX} (C : jC G X cX11_isCell 1 RX11 2 92) {v0 : Int32} {h : Hp} {out : Int32} (O : (O_Race_isCell G X h) out) (hm : s_Race_isCell v0 h = some out) : J G X 0 [(0, .int v0)] [] h := by
  unfold s_Race_isCell at hm
  refine j_iload_n C 0 dX11_isCell_0 rfl rfl ?_
  refine j_iconst C 0 dX11_isCell_1 (by decide) ?_
  refine j_bipush C 49 dX11_isCell_2 (by decide) ?_
  refine j_cS C l_X11_102 [.int v0, .int ((0 : Int32)), .int ((49 : Int32))] [] (fun u1 => some (.int u1)) (fun _ => h) (fun u1 => [.int u1]) hm (fun l u hu => c_Race_isWithin hu) rfl (Nat.le_of_ble_eq_true rfl) rfl (Nat.le_of_ble_eq_true rfl) (Nat.le_of_ble_eq_true rfl) (fun _ => rfl) dX11_isCell_4 (fun u1 hm => ?_)
  obtain ⟨cz, hm⟩ := bz_inv hm
  obtain rfl := Option.some.inj hm
  exact j_zret C O cz dX11_isCell_7
theorem c_Race_isCell {G : jG} {l : Launch} {v0 : Int32} {h : Hp} {out : Int32} (hm : s_Race_isCell v0 h = some out) : mt G l yX11_isCell cX11_isCell 1 (some .boolean) 2 92 [.int v0] h (some (.int out)) h :=
  mt_of (by decide) (Nat.le_of_ble_eq_true rfl) _ rfl (fun X I C O => w_Race_isCell C O hm)
noncomputable def s_Race_isStep (v0 : Int32) (h : Hp) : Option Int32 :=
  (s_Race_isWithin v0 ((0 : Int32)) ((143 : Int32)) h).bind fun u1 => bz u1 <| some (u1)
def O_Race_isStep (G : jG) (X : jX) (h : Hp) (out : Int32) : Prop := jO G X (some .boolean) (some (.int out)) h
theorem w_Race_isStep {G : jG} {X : jX} (C : jC G X cX11_isStep 1 RX11 2 92) {v0 : Int32} {h : Hp} {out : Int32} (O : (O_Race_isStep G X h) out) (hm : s_Race_isStep v0 h = some out) : J G X 0 [(0, .int v0)] [] h := by
  unfold s_Race_isStep at hm
  refine j_iload_n C 0 dX11_isStep_0 rfl rfl ?_
  refine j_iconst C 0 dX11_isStep_1 (by decide) ?_
  refine j_sipush C 143 dX11_isStep_2 (by decide) ?_
  refine j_cS C l_X11_102 [.int v0, .int ((0 : Int32)), .int ((143 : Int32))] [] (fun u1 => some (.int u1)) (fun _ => h) (fun u1 => [.int u1]) hm (fun l u hu => c_Race_isWithin hu) rfl (Nat.le_of_ble_eq_true rfl) rfl (Nat.le_of_ble_eq_true rfl) (Nat.le_of_ble_eq_true rfl) (fun _ => rfl) dX11_isStep_5 (fun u1 hm => ?_)
  obtain ⟨cz, hm⟩ := bz_inv hm
  obtain rfl := Option.some.inj hm
  exact j_zret C O cz dX11_isStep_8
theorem c_Race_isStep {G : jG} {l : Launch} {v0 : Int32} {h : Hp} {out : Int32} (hm : s_Race_isStep v0 h = some out) : mt G l yX11_isStep cX11_isStep 1 (some .boolean) 2 92 [.int v0] h (some (.int out)) h :=
  mt_of (by decide) (Nat.le_of_ble_eq_true rfl) _ rfl (fun X I C O => w_Race_isStep C O hm)
