noncomputable def s_Race_refuse_35 (v1 : Int32) (s0 : Int32) (h : Hp) : Option (Int32 × Hp) :=
  ib s0 4 <| ib s0 4 <| some (v1, sI h 83 (ix s0) ((hI h 83 (ix s0)) + ((1 : Int32))))
noncomputable def s_Race_refuse (v1 : Int32) (h : Hp) : Option (Int32 × Hp) :=
  if v1 = ((-1 : Int32)) then
    s_Race_refuse_35 v1 ((0 : Int32)) (sI h 0 12 v1)
  else
    if v1 = ((-2 : Int32)) then
      s_Race_refuse_35 v1 ((1 : Int32)) (sI h 0 12 v1)
    else
      if v1 = ((-5 : Int32)) then
        s_Race_refuse_35 v1 ((2 : Int32)) (sI h 0 12 v1)
      else
        s_Race_refuse_35 v1 ((3 : Int32)) (sI h 0 12 v1)
def O_Race_refuse (G : jG) (X : jX) (out : (Int32 × Hp)) : Prop := jO G X (some .int) (some (.int out.1)) out.2
theorem w_Race_refuse_35 {G : jG} {X : jX} (C : jC G X cX11_refuse 3 RX11 1 70) {v1 : Int32} {s0 : Int32} {h : Hp} {out : (Int32 × Hp)} (O : (O_Race_refuse G X) out) (hm : s_Race_refuse_35 v1 s0 h = some out) : J G X 35 [(0, .ref (G.1 + 0)), (1, .int v1)] [.int s0] h := by
  unfold s_Race_refuse_35 at hm
  refine j_istore_n C [(2, .int s0), (0, .ref (G.1 + 0)), (1, .int v1)] dX11_refuse_35 rfl (by decide) rfl ?_
  refine j_aload_n C 1 dX11_refuse_36 rfl rfl ?_
  refine j_gS C f_X11_88 n_0 q_0_11 dX11_refuse_37 ?_
  refine j_iload_n C 0 dX11_refuse_40 rfl rfl ?_
  refine j_dup2_11 C dX11_refuse_41 rfl rfl ?_
  refine j_iald C n_83 hm dX11_refuse_42 (fun hm => ?_)
  refine j_iconst C 1 dX11_refuse_43 (by decide) ?_
  refine j_iadd C dX11_refuse_44 ?_
  refine j_iast C n_83 hm dX11_refuse_45 (fun hm => ?_)
  refine j_iload_n C 2 dX11_refuse_46 rfl rfl ?_
  obtain rfl := Option.some.inj hm
  exact j_iret C O dX11_refuse_47
theorem w_Race_refuse {G : jG} {X : jX} (C : jC G X cX11_refuse 3 RX11 1 70) {v1 : Int32} {h : Hp} {out : (Int32 × Hp)} (O : (O_Race_refuse G X) out) (hm : s_Race_refuse v1 h = some out) : J G X 0 [(0, .ref (G.1 + 0)), (1, .int v1)] [] h := by
  unfold s_Race_refuse at hm
  refine j_aload_n C 0 dX11_refuse_0 rfl rfl ?_
  refine j_iload_n C 1 dX11_refuse_1 rfl rfl ?_
  refine j_pI C f_X11_92 n_0 dX11_refuse_2 ?_
  refine j_iload_n C 1 dX11_refuse_5 rfl rfl ?_
  refine j_iconst C (-1 : Int32) dX11_refuse_6 (by decide) ?_
  refine j_if_icmpne C 14 dX11_refuse_7 (by decide) hm (fun hm => ?_) (fun hm => ?_)
  · refine j_iconst C 0 dX11_refuse_10 (by decide) ?_
    refine j_goto C 35 dX11_refuse_11 (by decide) ?_
    refine j_sub (L' := [(0, .ref (G.1 + 0)), (1, .int v1)]) [0, 1] rfl ?_
    exact w_Race_refuse_35 C O hm
  · refine j_iload_n C 1 dX11_refuse_14 rfl rfl ?_
    refine j_bipush C (-2 : Int32) dX11_refuse_15 (by decide) ?_
    refine j_if_icmpne C 24 dX11_refuse_17 (by decide) hm (fun hm => ?_) (fun hm => ?_)
    · refine j_iconst C 1 dX11_refuse_20 (by decide) ?_
      refine j_goto C 35 dX11_refuse_21 (by decide) ?_
      refine j_sub (L' := [(0, .ref (G.1 + 0)), (1, .int v1)]) [0, 1] rfl ?_
      exact w_Race_refuse_35 C O hm
    · refine j_iload_n C 1 dX11_refuse_24 rfl rfl ?_
      refine j_bipush C (-5 : Int32) dX11_refuse_25 (by decide) ?_
      refine j_if_icmpne C 34 dX11_refuse_27 (by decide) hm (fun hm => ?_) (fun hm => ?_)
      · refine j_iconst C 2 dX11_refuse_30 (by decide) ?_
        refine j_goto C 35 dX11_refuse_31 (by decide) ?_
        refine j_sub (L' := [(0, .ref (G.1 + 0)), (1, .int v1)]) [0, 1] rfl ?_
        exact w_Race_refuse_35 C O hm
      · refine j_iconst C 3 dX11_refuse_34 (by decide) ?_
        refine j_sub (L' := [(0, .ref (G.1 + 0)), (1, .int v1)]) [0, 1] rfl ?_
        exact w_Race_refuse_35 C O hm
theorem c_Race_refuse {G : jG} {l : Launch} {v1 : Int32} {h : Hp} {out : (Int32 × Hp)} (hm : s_Race_refuse v1 h = some out) : mt G l yX11_refuse cX11_refuse 3 (some .int) 1 70 [.ref (G.1 + 0), .int v1] h (some (.int out.1)) out.2 :=
  mt_of (by decide) (Nat.le_of_ble_eq_true rfl) _ rfl (fun X I C O => w_Race_refuse C O hm)
noncomputable def s_State_copyFrom_16_74 (v2 : Int32) (h : Hp) : Option ((Int32 × Hp) ⊕ Hp) :=
  if ((6 : Int32)) ≤ v2 then
    cy h 22 ((0 : Int32)) 7 ((0 : Int32)) ((6 : Int32)) <| lt (cpI h 22 ((0 : Int32)) 7 ((0 : Int32)) ((6 : Int32))) fun h1 => cy h1 23 ((0 : Int32)) 8 ((0 : Int32)) ((6 : Int32)) <| lt (cpI h1 23 ((0 : Int32)) 8 ((0 : Int32)) ((6 : Int32))) fun h2 => cy h2 24 ((0 : Int32)) 9 ((0 : Int32)) ((40 : Int32)) <| lt (cpI h2 24 ((0 : Int32)) 9 ((0 : Int32)) ((40 : Int32))) fun h3 => cy h3 25 ((0 : Int32)) 10 ((0 : Int32)) ((6 : Int32)) <| lt (cpI h3 25 ((0 : Int32)) 10 ((0 : Int32)) ((6 : Int32))) fun h4 => cy h4 26 ((0 : Int32)) 11 ((0 : Int32)) ((6 : Int32)) <| lt (cpI h4 26 ((0 : Int32)) 11 ((0 : Int32)) ((6 : Int32))) fun h5 => cy h5 27 ((0 : Int32)) 12 ((0 : Int32)) ((6 : Int32)) <| lt (cpI h5 27 ((0 : Int32)) 12 ((0 : Int32)) ((6 : Int32))) fun h6 => cy h6 28 ((0 : Int32)) 13 ((0 : Int32)) ((12 : Int32)) <| lt (cpI h6 28 ((0 : Int32)) 13 ((0 : Int32)) ((12 : Int32))) fun h7 => cy h7 29 ((0 : Int32)) 14 ((0 : Int32)) ((12 : Int32)) <| lt (cpI h7 29 ((0 : Int32)) 14 ((0 : Int32)) ((12 : Int32))) fun h8 => lt (sI h8 1 13 (hI h8 16 13)) fun h9 => lt (sI h9 1 14 (hI h9 16 14)) fun h10 => lt (sI h10 1 15 (hI h10 16 15)) fun h11 => lt (sI h11 1 16 (hI h11 16 16)) fun h12 => lt (sI h12 1 17 (hI h12 16 17)) fun h13 => some (.inr (sI h13 1 18 (hI h13 16 18)))
  else
    ib v2 6 <| ib v2 6 <| oq h (hR h 21 (ix v2)) 101 <| some (.inl ((v2 + (1 : Int32)), (sR h 6 (ix v2) (hR h 21 (ix v2)))))
noncomputable def s_State_copyFrom_16 (h : Hp) : Option Hp :=
  cy h 17 ((0 : Int32)) 2 ((0 : Int32)) ((6 : Int32)) <| lt (cpI h 17 ((0 : Int32)) 2 ((0 : Int32)) ((6 : Int32))) fun h1 => cy h1 18 ((0 : Int32)) 3 ((0 : Int32)) ((24 : Int32)) <| lt (cpI h1 18 ((0 : Int32)) 3 ((0 : Int32)) ((24 : Int32))) fun h2 => cy h2 19 ((0 : Int32)) 4 ((0 : Int32)) ((11 : Int32)) <| lt (cpI h2 19 ((0 : Int32)) 4 ((0 : Int32)) ((11 : Int32))) fun h3 => cy h3 20 ((0 : Int32)) 5 ((0 : Int32)) ((50 : Int32)) <| lp (fun q => s_State_copyFrom_16_74 q.1 q.2) (((0 : Int32)), (cpI h3 20 ((0 : Int32)) 5 ((0 : Int32)) ((50 : Int32))))
def O_State_copyFrom_16 (G : jG) (X : jX) (out : Hp) : Prop := jO G X (none) none out
def P_State_copyFrom_16_74 (G : jG) (X : jX) (q : Int32 × Hp) : Prop := J G X 74 [(0, .ref (G.1 + 1)), (1, .ref (G.1 + 16)), (2, .int q.1)] [] q.2
def O_State_copyFrom_16_74 (G : jG) (X : jX) (t : ((Int32 × Hp) ⊕ Hp)) : Prop := Sum.elim (P_State_copyFrom_16_74 G X) (O_State_copyFrom_16 G X) t
theorem w_State_copyFrom_16_74 {G : jG} {X : jX} (C : jC G X cX6_copyFrom 3 RX6 1 70) {v2 : Int32} {h : Hp} {out : ((Int32 × Hp) ⊕ Hp)} (O : (O_State_copyFrom_16_74 G X) out) (hm : s_State_copyFrom_16_74 v2 h = some out) : J G X 74 [(0, .ref (G.1 + 1)), (1, .ref (G.1 + 16)), (2, .int v2)] [] h := by
  unfold s_State_copyFrom_16_74 at hm
  refine j_iload_n C 2 dX6_copyFrom_74 rfl rfl ?_
  refine j_bipush C 6 dX6_copyFrom_75 (by decide) ?_
  refine j_if_icmpge C 98 dX6_copyFrom_77 (by decide) hm (fun hm => ?_) (fun hm => ?_)
  · refine j_aload_n C 1 dX6_copyFrom_98 rfl rfl ?_
    refine j_gS C f_X6_38 n_16 q_16_5 dX6_copyFrom_99 ?_
    refine j_iconst C 0 dX6_copyFrom_102 (by decide) ?_
    refine j_aload_n C 0 dX6_copyFrom_103 rfl rfl ?_
    refine j_gS C f_X6_38 n_1 q_1_5 dX6_copyFrom_104 ?_
    refine j_iconst C 0 dX6_copyFrom_107 (by decide) ?_
    refine j_aload_n C 0 dX6_copyFrom_108 rfl rfl ?_
    refine j_gS C f_X6_38 n_1 q_1_5 dX6_copyFrom_109 ?_
    refine j_alen C 6 n_7 (by decide) dX6_copyFrom_112 ?_
    refine j_copy C wd_1306 wd_844 wd_843 wd_128 (Nat.le_of_ble_eq_true rfl) (Nat.le_of_ble_eq_true rfl) hm dX6_copyFrom_113 (fun hm => ?_)
    refine j_aload_n C 1 dX6_copyFrom_116 rfl rfl ?_
    refine j_nmH hm (fun h1 hm => ?_)
    refine j_gS C f_X6_41 n_16 q_16_6 dX6_copyFrom_117 ?_
    refine j_iconst C 0 dX6_copyFrom_120 (by decide) ?_
    refine j_aload_n C 0 dX6_copyFrom_121 rfl rfl ?_
    refine j_gS C f_X6_41 n_1 q_1_6 dX6_copyFrom_122 ?_
    refine j_iconst C 0 dX6_copyFrom_125 (by decide) ?_
    refine j_aload_n C 0 dX6_copyFrom_126 rfl rfl ?_
    refine j_gS C f_X6_41 n_1 q_1_6 dX6_copyFrom_127 ?_
    refine j_alen C 6 n_8 (by decide) dX6_copyFrom_130 ?_
    refine j_copy C wd_1306 wd_844 wd_843 wd_128 (Nat.le_of_ble_eq_true rfl) (Nat.le_of_ble_eq_true rfl) hm dX6_copyFrom_131 (fun hm => ?_)
    refine j_aload_n C 1 dX6_copyFrom_134 rfl rfl ?_
    refine j_nmH hm (fun h2 hm => ?_)
    refine j_gS C f_X6_44 n_16 q_16_7 dX6_copyFrom_135 ?_
    refine j_iconst C 0 dX6_copyFrom_138 (by decide) ?_
    refine j_aload_n C 0 dX6_copyFrom_139 rfl rfl ?_
    refine j_gS C f_X6_44 n_1 q_1_7 dX6_copyFrom_140 ?_
    refine j_iconst C 0 dX6_copyFrom_143 (by decide) ?_
    refine j_aload_n C 0 dX6_copyFrom_144 rfl rfl ?_
    refine j_gS C f_X6_44 n_1 q_1_7 dX6_copyFrom_145 ?_
    refine j_alen C 40 n_9 (by decide) dX6_copyFrom_148 ?_
    refine j_copy C wd_1306 wd_844 wd_843 wd_128 (Nat.le_of_ble_eq_true rfl) (Nat.le_of_ble_eq_true rfl) hm dX6_copyFrom_149 (fun hm => ?_)
    refine j_aload_n C 1 dX6_copyFrom_152 rfl rfl ?_
    refine j_nmH hm (fun h3 hm => ?_)
    refine j_gS C f_X6_47 n_16 q_16_8 dX6_copyFrom_153 ?_
    refine j_iconst C 0 dX6_copyFrom_156 (by decide) ?_
    refine j_aload_n C 0 dX6_copyFrom_157 rfl rfl ?_
    refine j_gS C f_X6_47 n_1 q_1_8 dX6_copyFrom_158 ?_
    refine j_iconst C 0 dX6_copyFrom_161 (by decide) ?_
    refine j_aload_n C 0 dX6_copyFrom_162 rfl rfl ?_
    refine j_gS C f_X6_47 n_1 q_1_8 dX6_copyFrom_163 ?_
    refine j_alen C 6 n_10 (by decide) dX6_copyFrom_166 ?_
    refine j_copy C wd_1306 wd_844 wd_843 wd_128 (Nat.le_of_ble_eq_true rfl) (Nat.le_of_ble_eq_true rfl) hm dX6_copyFrom_167 (fun hm => ?_)
    refine j_aload_n C 1 dX6_copyFrom_170 rfl rfl ?_
    refine j_nmH hm (fun h4 hm => ?_)
    refine j_gS C f_X6_50 n_16 q_16_9 dX6_copyFrom_171 ?_
    refine j_iconst C 0 dX6_copyFrom_174 (by decide) ?_
    refine j_aload_n C 0 dX6_copyFrom_175 rfl rfl ?_
    refine j_gS C f_X6_50 n_1 q_1_9 dX6_copyFrom_176 ?_
    refine j_iconst C 0 dX6_copyFrom_179 (by decide) ?_
    refine j_aload_n C 0 dX6_copyFrom_180 rfl rfl ?_
    refine j_gS C f_X6_50 n_1 q_1_9 dX6_copyFrom_181 ?_
    refine j_alen C 6 n_11 (by decide) dX6_copyFrom_184 ?_
    refine j_copy C wd_1306 wd_844 wd_843 wd_128 (Nat.le_of_ble_eq_true rfl) (Nat.le_of_ble_eq_true rfl) hm dX6_copyFrom_185 (fun hm => ?_)
    refine j_aload_n C 1 dX6_copyFrom_188 rfl rfl ?_
    refine j_nmH hm (fun h5 hm => ?_)
    refine j_gS C f_X6_53 n_16 q_16_10 dX6_copyFrom_189 ?_
    refine j_iconst C 0 dX6_copyFrom_192 (by decide) ?_
    refine j_aload_n C 0 dX6_copyFrom_193 rfl rfl ?_
    refine j_gS C f_X6_53 n_1 q_1_10 dX6_copyFrom_194 ?_
    refine j_iconst C 0 dX6_copyFrom_197 (by decide) ?_
    refine j_aload_n C 0 dX6_copyFrom_198 rfl rfl ?_
    refine j_gS C f_X6_53 n_1 q_1_10 dX6_copyFrom_199 ?_
    refine j_alen C 6 n_12 (by decide) dX6_copyFrom_202 ?_
    refine j_copy C wd_1306 wd_844 wd_843 wd_128 (Nat.le_of_ble_eq_true rfl) (Nat.le_of_ble_eq_true rfl) hm dX6_copyFrom_203 (fun hm => ?_)
    refine j_aload_n C 1 dX6_copyFrom_206 rfl rfl ?_
    refine j_nmH hm (fun h6 hm => ?_)
    refine j_gS C f_X6_56 n_16 q_16_11 dX6_copyFrom_207 ?_
    refine j_iconst C 0 dX6_copyFrom_210 (by decide) ?_
    refine j_aload_n C 0 dX6_copyFrom_211 rfl rfl ?_
    refine j_gS C f_X6_56 n_1 q_1_11 dX6_copyFrom_212 ?_
    refine j_iconst C 0 dX6_copyFrom_215 (by decide) ?_
    refine j_aload_n C 0 dX6_copyFrom_216 rfl rfl ?_
    refine j_gS C f_X6_56 n_1 q_1_11 dX6_copyFrom_217 ?_
    refine j_alen C 12 n_13 (by decide) dX6_copyFrom_220 ?_
    refine j_copy C wd_1306 wd_844 wd_843 wd_128 (Nat.le_of_ble_eq_true rfl) (Nat.le_of_ble_eq_true rfl) hm dX6_copyFrom_221 (fun hm => ?_)
    refine j_aload_n C 1 dX6_copyFrom_224 rfl rfl ?_
    refine j_nmH hm (fun h7 hm => ?_)
    refine j_gS C f_X6_59 n_16 q_16_12 dX6_copyFrom_225 ?_
    refine j_iconst C 0 dX6_copyFrom_228 (by decide) ?_
    refine j_aload_n C 0 dX6_copyFrom_229 rfl rfl ?_
    refine j_gS C f_X6_59 n_1 q_1_12 dX6_copyFrom_230 ?_
    refine j_iconst C 0 dX6_copyFrom_233 (by decide) ?_
    refine j_aload_n C 0 dX6_copyFrom_234 rfl rfl ?_
    refine j_gS C f_X6_59 n_1 q_1_12 dX6_copyFrom_235 ?_
    refine j_alen C 12 n_14 (by decide) dX6_copyFrom_238 ?_
    refine j_copy C wd_1306 wd_844 wd_843 wd_128 (Nat.le_of_ble_eq_true rfl) (Nat.le_of_ble_eq_true rfl) hm dX6_copyFrom_239 (fun hm => ?_)
    refine j_aload_n C 0 dX6_copyFrom_242 rfl rfl ?_
    refine j_aload_n C 1 dX6_copyFrom_243 rfl rfl ?_
    refine j_nmH hm (fun h8 hm => ?_)
    refine j_gI C f_X6_62 n_16 dX6_copyFrom_244 ?_
    refine j_pI C f_X6_62 n_1 dX6_copyFrom_247 ?_
    refine j_aload_n C 0 dX6_copyFrom_250 rfl rfl ?_
    refine j_aload_n C 1 dX6_copyFrom_251 rfl rfl ?_
    refine j_nmH hm (fun h9 hm => ?_)
    refine j_gI C f_X6_66 n_16 dX6_copyFrom_252 ?_
    refine j_pI C f_X6_66 n_1 dX6_copyFrom_255 ?_
    refine j_aload_n C 0 dX6_copyFrom_258 rfl rfl ?_
    refine j_aload_n C 1 dX6_copyFrom_259 rfl rfl ?_
    refine j_nmH hm (fun h10 hm => ?_)
    refine j_gI C f_X6_69 n_16 dX6_copyFrom_260 ?_
    refine j_pI C f_X6_69 n_1 dX6_copyFrom_263 ?_
    refine j_aload_n C 0 dX6_copyFrom_266 rfl rfl ?_
    refine j_aload_n C 1 dX6_copyFrom_267 rfl rfl ?_
    refine j_nmH hm (fun h11 hm => ?_)
    refine j_gI C f_X6_72 n_16 dX6_copyFrom_268 ?_
    refine j_pI C f_X6_72 n_1 dX6_copyFrom_271 ?_
    refine j_aload_n C 0 dX6_copyFrom_274 rfl rfl ?_
    refine j_aload_n C 1 dX6_copyFrom_275 rfl rfl ?_
    refine j_nmH hm (fun h12 hm => ?_)
    refine j_gI C f_X6_75 n_16 dX6_copyFrom_276 ?_
    refine j_pI C f_X6_75 n_1 dX6_copyFrom_279 ?_
    refine j_aload_n C 0 dX6_copyFrom_282 rfl rfl ?_
    refine j_aload_n C 1 dX6_copyFrom_283 rfl rfl ?_
    refine j_nmH hm (fun h13 hm => ?_)
    refine j_gI C f_X6_78 n_16 dX6_copyFrom_284 ?_
    refine j_pI C f_X6_78 n_1 dX6_copyFrom_287 ?_
    obtain rfl := Option.some.inj hm
    exact j_vret C O dX6_copyFrom_290
  · refine j_aload_n C 0 dX6_copyFrom_80 rfl rfl ?_
    refine j_gS C f_X6_34 n_1 q_1_4 dX6_copyFrom_81 ?_
    refine j_iload_n C 2 dX6_copyFrom_84 rfl rfl ?_
    refine j_aload_n C 1 dX6_copyFrom_85 rfl rfl ?_
    refine j_gS C f_X6_34 n_16 q_16_4 dX6_copyFrom_86 ?_
    refine j_iload_n C 2 dX6_copyFrom_89 rfl rfl ?_
    refine j_aald C n_21 (by decide) (by decide) (p := 5) rfl hm dX6_copyFrom_90 (fun hm => ?_)
    rw [rf_nil (show RS.getD 21 [] = [] from rfl)]
    refine j_aast C (o := (hR h 21 (ix v2))) n_6 rfl hm dX6_copyFrom_91 (fun hm => ?_)
    refine j_iinc C 2 [(2, .int (v2 + (1 : Int32))), (0, .ref (G.1 + 1)), (1, .ref (G.1 + 16))] dX6_copyFrom_92 rfl (add_lit (by decide)) (by decide) rfl ?_
    refine j_goto C 74 dX6_copyFrom_95 (by decide) ?_
    obtain rfl := Option.some.inj hm
    refine j_sub (L' := [(0, .ref (G.1 + 1)), (1, .ref (G.1 + 16)), (2, .int (v2 + (1 : Int32)))]) [1, 2, 0] rfl ?_
    exact O
theorem k_State_copyFrom_16_74 {G : jG} {X : jX} (C : jC G X cX6_copyFrom 3 RX6 1 70) {v2 : Int32} {h : Hp} {out : Hp} (O : (O_State_copyFrom_16 G X) out) (hm : lp (fun q => s_State_copyFrom_16_74 q.1 q.2) (v2, h) = some out) : J G X 74 [(0, .ref (G.1 + 1)), (1, .ref (G.1 + 16)), (2, .int v2)] [] h :=
  lp_ok (P := P_State_copyFrom_16_74 G X) (O := (O_State_copyFrom_16 G X)) (fun q r hm O => w_State_copyFrom_16_74 C O hm) hm O
theorem w_State_copyFrom_16 {G : jG} {X : jX} (C : jC G X cX6_copyFrom 3 RX6 1 70) {h : Hp} {out : Hp} (O : (O_State_copyFrom_16 G X) out) (hm : s_State_copyFrom_16 h = some out) : J G X 0 [(0, .ref (G.1 + 1)), (1, .ref (G.1 + 16))] [] h := by
  unfold s_State_copyFrom_16 at hm
  refine j_aload_n C 1 dX6_copyFrom_0 rfl rfl ?_
  refine j_gS C f_X6_9 n_16 q_16_0 dX6_copyFrom_1 ?_
  refine j_iconst C 0 dX6_copyFrom_4 (by decide) ?_
  refine j_aload_n C 0 dX6_copyFrom_5 rfl rfl ?_
  refine j_gS C f_X6_9 n_1 q_1_0 dX6_copyFrom_6 ?_
  refine j_iconst C 0 dX6_copyFrom_9 (by decide) ?_
  refine j_aload_n C 0 dX6_copyFrom_10 rfl rfl ?_
  refine j_gS C f_X6_9 n_1 q_1_0 dX6_copyFrom_11 ?_
  refine j_alen C 6 n_2 (by decide) dX6_copyFrom_14 ?_
  refine j_copy C wd_1306 wd_844 wd_843 wd_128 (Nat.le_of_ble_eq_true rfl) (Nat.le_of_ble_eq_true rfl) hm dX6_copyFrom_15 (fun hm => ?_)
  refine j_aload_n C 1 dX6_copyFrom_18 rfl rfl ?_
  refine j_nmH hm (fun h1 hm => ?_)
  refine j_gS C f_X6_15 n_16 q_16_1 dX6_copyFrom_19 ?_
  refine j_iconst C 0 dX6_copyFrom_22 (by decide) ?_
  refine j_aload_n C 0 dX6_copyFrom_23 rfl rfl ?_
  refine j_gS C f_X6_15 n_1 q_1_1 dX6_copyFrom_24 ?_
  refine j_iconst C 0 dX6_copyFrom_27 (by decide) ?_
  refine j_aload_n C 0 dX6_copyFrom_28 rfl rfl ?_
  refine j_gS C f_X6_15 n_1 q_1_1 dX6_copyFrom_29 ?_
  refine j_alen C 24 n_3 (by decide) dX6_copyFrom_32 ?_
  refine j_copy C wd_1306 wd_844 wd_843 wd_128 (Nat.le_of_ble_eq_true rfl) (Nat.le_of_ble_eq_true rfl) hm dX6_copyFrom_33 (fun hm => ?_)
  refine j_aload_n C 1 dX6_copyFrom_36 rfl rfl ?_
  refine j_nmH hm (fun h2 hm => ?_)
  refine j_gS C f_X6_26 n_16 q_16_2 dX6_copyFrom_37 ?_
  refine j_iconst C 0 dX6_copyFrom_40 (by decide) ?_
  refine j_aload_n C 0 dX6_copyFrom_41 rfl rfl ?_
  refine j_gS C f_X6_26 n_1 q_1_2 dX6_copyFrom_42 ?_
  refine j_iconst C 0 dX6_copyFrom_45 (by decide) ?_
  refine j_aload_n C 0 dX6_copyFrom_46 rfl rfl ?_
  refine j_gS C f_X6_26 n_1 q_1_2 dX6_copyFrom_47 ?_
  refine j_alen C 11 n_4 (by decide) dX6_copyFrom_50 ?_
  refine j_copy C wd_1306 wd_844 wd_843 wd_128 (Nat.le_of_ble_eq_true rfl) (Nat.le_of_ble_eq_true rfl) hm dX6_copyFrom_51 (fun hm => ?_)
  refine j_aload_n C 1 dX6_copyFrom_54 rfl rfl ?_
  refine j_nmH hm (fun h3 hm => ?_)
  refine j_gS C f_X6_29 n_16 q_16_3 dX6_copyFrom_55 ?_
  refine j_iconst C 0 dX6_copyFrom_58 (by decide) ?_
  refine j_aload_n C 0 dX6_copyFrom_59 rfl rfl ?_
  refine j_gS C f_X6_29 n_1 q_1_3 dX6_copyFrom_60 ?_
  refine j_iconst C 0 dX6_copyFrom_63 (by decide) ?_
  refine j_aload_n C 0 dX6_copyFrom_64 rfl rfl ?_
  refine j_gS C f_X6_29 n_1 q_1_3 dX6_copyFrom_65 ?_
  refine j_alen C 50 n_5 (by decide) dX6_copyFrom_68 ?_
  refine j_copy C wd_1306 wd_844 wd_843 wd_128 (Nat.le_of_ble_eq_true rfl) (Nat.le_of_ble_eq_true rfl) hm dX6_copyFrom_69 (fun hm => ?_)
  refine j_iconst C 0 dX6_copyFrom_72 (by decide) ?_
  refine j_istore_n C [(2, .int ((0 : Int32))), (0, .ref (G.1 + 1)), (1, .ref (G.1 + 16))] dX6_copyFrom_73 rfl (by decide) rfl ?_
  refine j_sub (L' := [(0, .ref (G.1 + 1)), (1, .ref (G.1 + 16)), (2, .int ((0 : Int32)))]) [1, 2, 0] rfl ?_
  exact k_State_copyFrom_16_74 C O hm
theorem c_State_copyFrom_16 {G : jG} {l : Launch} {h : Hp} {out : Hp} (hm : s_State_copyFrom_16 h = some out) : mt G l yX6_copyFrom cX6_copyFrom 3 (none) 1 70 [.ref (G.1 + 1), .ref (G.1 + 16)] h none out :=
  mt_of (by decide) (Nat.le_of_ble_eq_true rfl) _ rfl (fun X I C O => w_State_copyFrom_16 C O hm)
noncomputable def s_State_copyFrom_30_74 (v2 : Int32) (h : Hp) : Option ((Int32 × Hp) ⊕ Hp) :=
  if ((6 : Int32)) ≤ v2 then
    cy h 36 ((0 : Int32)) 7 ((0 : Int32)) ((6 : Int32)) <| lt (cpI h 36 ((0 : Int32)) 7 ((0 : Int32)) ((6 : Int32))) fun h1 => cy h1 37 ((0 : Int32)) 8 ((0 : Int32)) ((6 : Int32)) <| lt (cpI h1 37 ((0 : Int32)) 8 ((0 : Int32)) ((6 : Int32))) fun h2 => cy h2 38 ((0 : Int32)) 9 ((0 : Int32)) ((40 : Int32)) <| lt (cpI h2 38 ((0 : Int32)) 9 ((0 : Int32)) ((40 : Int32))) fun h3 => cy h3 39 ((0 : Int32)) 10 ((0 : Int32)) ((6 : Int32)) <| lt (cpI h3 39 ((0 : Int32)) 10 ((0 : Int32)) ((6 : Int32))) fun h4 => cy h4 40 ((0 : Int32)) 11 ((0 : Int32)) ((6 : Int32)) <| lt (cpI h4 40 ((0 : Int32)) 11 ((0 : Int32)) ((6 : Int32))) fun h5 => cy h5 41 ((0 : Int32)) 12 ((0 : Int32)) ((6 : Int32)) <| lt (cpI h5 41 ((0 : Int32)) 12 ((0 : Int32)) ((6 : Int32))) fun h6 => cy h6 42 ((0 : Int32)) 13 ((0 : Int32)) ((12 : Int32)) <| lt (cpI h6 42 ((0 : Int32)) 13 ((0 : Int32)) ((12 : Int32))) fun h7 => cy h7 43 ((0 : Int32)) 14 ((0 : Int32)) ((12 : Int32)) <| lt (cpI h7 43 ((0 : Int32)) 14 ((0 : Int32)) ((12 : Int32))) fun h8 => lt (sI h8 1 13 (hI h8 30 13)) fun h9 => lt (sI h9 1 14 (hI h9 30 14)) fun h10 => lt (sI h10 1 15 (hI h10 30 15)) fun h11 => lt (sI h11 1 16 (hI h11 30 16)) fun h12 => lt (sI h12 1 17 (hI h12 30 17)) fun h13 => some (.inr (sI h13 1 18 (hI h13 30 18)))
  else
    ib v2 6 <| ib v2 6 <| oq h (hR h 35 (ix v2)) 101 <| some (.inl ((v2 + (1 : Int32)), (sR h 6 (ix v2) (hR h 35 (ix v2)))))
noncomputable def s_State_copyFrom_30 (h : Hp) : Option Hp :=
  cy h 31 ((0 : Int32)) 2 ((0 : Int32)) ((6 : Int32)) <| lt (cpI h 31 ((0 : Int32)) 2 ((0 : Int32)) ((6 : Int32))) fun h1 => cy h1 32 ((0 : Int32)) 3 ((0 : Int32)) ((24 : Int32)) <| lt (cpI h1 32 ((0 : Int32)) 3 ((0 : Int32)) ((24 : Int32))) fun h2 => cy h2 33 ((0 : Int32)) 4 ((0 : Int32)) ((11 : Int32)) <| lt (cpI h2 33 ((0 : Int32)) 4 ((0 : Int32)) ((11 : Int32))) fun h3 => cy h3 34 ((0 : Int32)) 5 ((0 : Int32)) ((50 : Int32)) <| lp (fun q => s_State_copyFrom_30_74 q.1 q.2) (((0 : Int32)), (cpI h3 34 ((0 : Int32)) 5 ((0 : Int32)) ((50 : Int32))))
def O_State_copyFrom_30 (G : jG) (X : jX) (out : Hp) : Prop := jO G X (none) none out
def P_State_copyFrom_30_74 (G : jG) (X : jX) (q : Int32 × Hp) : Prop := J G X 74 [(0, .ref (G.1 + 1)), (1, .ref (G.1 + 30)), (2, .int q.1)] [] q.2
def O_State_copyFrom_30_74 (G : jG) (X : jX) (t : ((Int32 × Hp) ⊕ Hp)) : Prop := Sum.elim (P_State_copyFrom_30_74 G X) (O_State_copyFrom_30 G X) t
theorem w_State_copyFrom_30_74 {G : jG} {X : jX} (C : jC G X cX6_copyFrom 3 RX6 1 70) {v2 : Int32} {h : Hp} {out : ((Int32 × Hp) ⊕ Hp)} (O : (O_State_copyFrom_30_74 G X) out) (hm : s_State_copyFrom_30_74 v2 h = some out) : J G X 74 [(0, .ref (G.1 + 1)), (1, .ref (G.1 + 30)), (2, .int v2)] [] h := by
  unfold s_State_copyFrom_30_74 at hm
  refine j_iload_n C 2 dX6_copyFrom_74 rfl rfl ?_
  refine j_bipush C 6 dX6_copyFrom_75 (by decide) ?_
  refine j_if_icmpge C 98 dX6_copyFrom_77 (by decide) hm (fun hm => ?_) (fun hm => ?_)
  · refine j_aload_n C 1 dX6_copyFrom_98 rfl rfl ?_
    refine j_gS C f_X6_38 n_30 q_30_5 dX6_copyFrom_99 ?_
    refine j_iconst C 0 dX6_copyFrom_102 (by decide) ?_
    refine j_aload_n C 0 dX6_copyFrom_103 rfl rfl ?_
    refine j_gS C f_X6_38 n_1 q_1_5 dX6_copyFrom_104 ?_
    refine j_iconst C 0 dX6_copyFrom_107 (by decide) ?_
    refine j_aload_n C 0 dX6_copyFrom_108 rfl rfl ?_
    refine j_gS C f_X6_38 n_1 q_1_5 dX6_copyFrom_109 ?_
    refine j_alen C 6 n_7 (by decide) dX6_copyFrom_112 ?_
    refine j_copy C wd_1306 wd_844 wd_843 wd_128 (Nat.le_of_ble_eq_true rfl) (Nat.le_of_ble_eq_true rfl) hm dX6_copyFrom_113 (fun hm => ?_)
    refine j_aload_n C 1 dX6_copyFrom_116 rfl rfl ?_
    refine j_nmH hm (fun h1 hm => ?_)
    refine j_gS C f_X6_41 n_30 q_30_6 dX6_copyFrom_117 ?_
    refine j_iconst C 0 dX6_copyFrom_120 (by decide) ?_
    refine j_aload_n C 0 dX6_copyFrom_121 rfl rfl ?_
    refine j_gS C f_X6_41 n_1 q_1_6 dX6_copyFrom_122 ?_
    refine j_iconst C 0 dX6_copyFrom_125 (by decide) ?_
    refine j_aload_n C 0 dX6_copyFrom_126 rfl rfl ?_
    refine j_gS C f_X6_41 n_1 q_1_6 dX6_copyFrom_127 ?_
    refine j_alen C 6 n_8 (by decide) dX6_copyFrom_130 ?_
    refine j_copy C wd_1306 wd_844 wd_843 wd_128 (Nat.le_of_ble_eq_true rfl) (Nat.le_of_ble_eq_true rfl) hm dX6_copyFrom_131 (fun hm => ?_)
    refine j_aload_n C 1 dX6_copyFrom_134 rfl rfl ?_
    refine j_nmH hm (fun h2 hm => ?_)
    refine j_gS C f_X6_44 n_30 q_30_7 dX6_copyFrom_135 ?_
    refine j_iconst C 0 dX6_copyFrom_138 (by decide) ?_
    refine j_aload_n C 0 dX6_copyFrom_139 rfl rfl ?_
    refine j_gS C f_X6_44 n_1 q_1_7 dX6_copyFrom_140 ?_
    refine j_iconst C 0 dX6_copyFrom_143 (by decide) ?_
    refine j_aload_n C 0 dX6_copyFrom_144 rfl rfl ?_
    refine j_gS C f_X6_44 n_1 q_1_7 dX6_copyFrom_145 ?_
    refine j_alen C 40 n_9 (by decide) dX6_copyFrom_148 ?_
    refine j_copy C wd_1306 wd_844 wd_843 wd_128 (Nat.le_of_ble_eq_true rfl) (Nat.le_of_ble_eq_true rfl) hm dX6_copyFrom_149 (fun hm => ?_)
    refine j_aload_n C 1 dX6_copyFrom_152 rfl rfl ?_
    refine j_nmH hm (fun h3 hm => ?_)
    refine j_gS C f_X6_47 n_30 q_30_8 dX6_copyFrom_153 ?_
    refine j_iconst C 0 dX6_copyFrom_156 (by decide) ?_
    refine j_aload_n C 0 dX6_copyFrom_157 rfl rfl ?_
    refine j_gS C f_X6_47 n_1 q_1_8 dX6_copyFrom_158 ?_
    refine j_iconst C 0 dX6_copyFrom_161 (by decide) ?_
    refine j_aload_n C 0 dX6_copyFrom_162 rfl rfl ?_
    refine j_gS C f_X6_47 n_1 q_1_8 dX6_copyFrom_163 ?_
    refine j_alen C 6 n_10 (by decide) dX6_copyFrom_166 ?_
    refine j_copy C wd_1306 wd_844 wd_843 wd_128 (Nat.le_of_ble_eq_true rfl) (Nat.le_of_ble_eq_true rfl) hm dX6_copyFrom_167 (fun hm => ?_)
    refine j_aload_n C 1 dX6_copyFrom_170 rfl rfl ?_
    refine j_nmH hm (fun h4 hm => ?_)
    refine j_gS C f_X6_50 n_30 q_30_9 dX6_copyFrom_171 ?_
    refine j_iconst C 0 dX6_copyFrom_174 (by decide) ?_
    refine j_aload_n C 0 dX6_copyFrom_175 rfl rfl ?_
    refine j_gS C f_X6_50 n_1 q_1_9 dX6_copyFrom_176 ?_
    refine j_iconst C 0 dX6_copyFrom_179 (by decide) ?_
    refine j_aload_n C 0 dX6_copyFrom_180 rfl rfl ?_
    refine j_gS C f_X6_50 n_1 q_1_9 dX6_copyFrom_181 ?_
    refine j_alen C 6 n_11 (by decide) dX6_copyFrom_184 ?_
    refine j_copy C wd_1306 wd_844 wd_843 wd_128 (Nat.le_of_ble_eq_true rfl) (Nat.le_of_ble_eq_true rfl) hm dX6_copyFrom_185 (fun hm => ?_)
    refine j_aload_n C 1 dX6_copyFrom_188 rfl rfl ?_
    refine j_nmH hm (fun h5 hm => ?_)
    refine j_gS C f_X6_53 n_30 q_30_10 dX6_copyFrom_189 ?_
    refine j_iconst C 0 dX6_copyFrom_192 (by decide) ?_
    refine j_aload_n C 0 dX6_copyFrom_193 rfl rfl ?_
    refine j_gS C f_X6_53 n_1 q_1_10 dX6_copyFrom_194 ?_
    refine j_iconst C 0 dX6_copyFrom_197 (by decide) ?_
    refine j_aload_n C 0 dX6_copyFrom_198 rfl rfl ?_
    refine j_gS C f_X6_53 n_1 q_1_10 dX6_copyFrom_199 ?_
    refine j_alen C 6 n_12 (by decide) dX6_copyFrom_202 ?_
    refine j_copy C wd_1306 wd_844 wd_843 wd_128 (Nat.le_of_ble_eq_true rfl) (Nat.le_of_ble_eq_true rfl) hm dX6_copyFrom_203 (fun hm => ?_)
    refine j_aload_n C 1 dX6_copyFrom_206 rfl rfl ?_
    refine j_nmH hm (fun h6 hm => ?_)
    refine j_gS C f_X6_56 n_30 q_30_11 dX6_copyFrom_207 ?_
    refine j_iconst C 0 dX6_copyFrom_210 (by decide) ?_
    refine j_aload_n C 0 dX6_copyFrom_211 rfl rfl ?_
    refine j_gS C f_X6_56 n_1 q_1_11 dX6_copyFrom_212 ?_
    refine j_iconst C 0 dX6_copyFrom_215 (by decide) ?_
    refine j_aload_n C 0 dX6_copyFrom_216 rfl rfl ?_
    refine j_gS C f_X6_56 n_1 q_1_11 dX6_copyFrom_217 ?_
    refine j_alen C 12 n_13 (by decide) dX6_copyFrom_220 ?_
    refine j_copy C wd_1306 wd_844 wd_843 wd_128 (Nat.le_of_ble_eq_true rfl) (Nat.le_of_ble_eq_true rfl) hm dX6_copyFrom_221 (fun hm => ?_)
    refine j_aload_n C 1 dX6_copyFrom_224 rfl rfl ?_
    refine j_nmH hm (fun h7 hm => ?_)
    refine j_gS C f_X6_59 n_30 q_30_12 dX6_copyFrom_225 ?_
    refine j_iconst C 0 dX6_copyFrom_228 (by decide) ?_
    refine j_aload_n C 0 dX6_copyFrom_229 rfl rfl ?_
    refine j_gS C f_X6_59 n_1 q_1_12 dX6_copyFrom_230 ?_
    refine j_iconst C 0 dX6_copyFrom_233 (by decide) ?_
    refine j_aload_n C 0 dX6_copyFrom_234 rfl rfl ?_
    refine j_gS C f_X6_59 n_1 q_1_12 dX6_copyFrom_235 ?_
    refine j_alen C 12 n_14 (by decide) dX6_copyFrom_238 ?_
    refine j_copy C wd_1306 wd_844 wd_843 wd_128 (Nat.le_of_ble_eq_true rfl) (Nat.le_of_ble_eq_true rfl) hm dX6_copyFrom_239 (fun hm => ?_)
    refine j_aload_n C 0 dX6_copyFrom_242 rfl rfl ?_
    refine j_aload_n C 1 dX6_copyFrom_243 rfl rfl ?_
    refine j_nmH hm (fun h8 hm => ?_)
    refine j_gI C f_X6_62 n_30 dX6_copyFrom_244 ?_
    refine j_pI C f_X6_62 n_1 dX6_copyFrom_247 ?_
    refine j_aload_n C 0 dX6_copyFrom_250 rfl rfl ?_
    refine j_aload_n C 1 dX6_copyFrom_251 rfl rfl ?_
    refine j_nmH hm (fun h9 hm => ?_)
    refine j_gI C f_X6_66 n_30 dX6_copyFrom_252 ?_
    refine j_pI C f_X6_66 n_1 dX6_copyFrom_255 ?_
    refine j_aload_n C 0 dX6_copyFrom_258 rfl rfl ?_
    refine j_aload_n C 1 dX6_copyFrom_259 rfl rfl ?_
    refine j_nmH hm (fun h10 hm => ?_)
    refine j_gI C f_X6_69 n_30 dX6_copyFrom_260 ?_
    refine j_pI C f_X6_69 n_1 dX6_copyFrom_263 ?_
    refine j_aload_n C 0 dX6_copyFrom_266 rfl rfl ?_
    refine j_aload_n C 1 dX6_copyFrom_267 rfl rfl ?_
    refine j_nmH hm (fun h11 hm => ?_)
    refine j_gI C f_X6_72 n_30 dX6_copyFrom_268 ?_
    refine j_pI C f_X6_72 n_1 dX6_copyFrom_271 ?_
    refine j_aload_n C 0 dX6_copyFrom_274 rfl rfl ?_
    refine j_aload_n C 1 dX6_copyFrom_275 rfl rfl ?_
    refine j_nmH hm (fun h12 hm => ?_)
    refine j_gI C f_X6_75 n_30 dX6_copyFrom_276 ?_
    refine j_pI C f_X6_75 n_1 dX6_copyFrom_279 ?_
    refine j_aload_n C 0 dX6_copyFrom_282 rfl rfl ?_
    refine j_aload_n C 1 dX6_copyFrom_283 rfl rfl ?_
    refine j_nmH hm (fun h13 hm => ?_)
    refine j_gI C f_X6_78 n_30 dX6_copyFrom_284 ?_
    refine j_pI C f_X6_78 n_1 dX6_copyFrom_287 ?_
    obtain rfl := Option.some.inj hm
    exact j_vret C O dX6_copyFrom_290
  · refine j_aload_n C 0 dX6_copyFrom_80 rfl rfl ?_
    refine j_gS C f_X6_34 n_1 q_1_4 dX6_copyFrom_81 ?_
    refine j_iload_n C 2 dX6_copyFrom_84 rfl rfl ?_
    refine j_aload_n C 1 dX6_copyFrom_85 rfl rfl ?_
    refine j_gS C f_X6_34 n_30 q_30_4 dX6_copyFrom_86 ?_
    refine j_iload_n C 2 dX6_copyFrom_89 rfl rfl ?_
    refine j_aald C n_35 (by decide) (by decide) (p := 5) rfl hm dX6_copyFrom_90 (fun hm => ?_)
    rw [rf_nil (show RS.getD 35 [] = [] from rfl)]
    refine j_aast C (o := (hR h 35 (ix v2))) n_6 rfl hm dX6_copyFrom_91 (fun hm => ?_)
    refine j_iinc C 2 [(2, .int (v2 + (1 : Int32))), (0, .ref (G.1 + 1)), (1, .ref (G.1 + 30))] dX6_copyFrom_92 rfl (add_lit (by decide)) (by decide) rfl ?_
    refine j_goto C 74 dX6_copyFrom_95 (by decide) ?_
    obtain rfl := Option.some.inj hm
    refine j_sub (L' := [(0, .ref (G.1 + 1)), (1, .ref (G.1 + 30)), (2, .int (v2 + (1 : Int32)))]) [1, 2, 0] rfl ?_
    exact O
theorem k_State_copyFrom_30_74 {G : jG} {X : jX} (C : jC G X cX6_copyFrom 3 RX6 1 70) {v2 : Int32} {h : Hp} {out : Hp} (O : (O_State_copyFrom_30 G X) out) (hm : lp (fun q => s_State_copyFrom_30_74 q.1 q.2) (v2, h) = some out) : J G X 74 [(0, .ref (G.1 + 1)), (1, .ref (G.1 + 30)), (2, .int v2)] [] h :=
  lp_ok (P := P_State_copyFrom_30_74 G X) (O := (O_State_copyFrom_30 G X)) (fun q r hm O => w_State_copyFrom_30_74 C O hm) hm O
theorem w_State_copyFrom_30 {G : jG} {X : jX} (C : jC G X cX6_copyFrom 3 RX6 1 70) {h : Hp} {out : Hp} (O : (O_State_copyFrom_30 G X) out) (hm : s_State_copyFrom_30 h = some out) : J G X 0 [(0, .ref (G.1 + 1)), (1, .ref (G.1 + 30))] [] h := by
  unfold s_State_copyFrom_30 at hm
  refine j_aload_n C 1 dX6_copyFrom_0 rfl rfl ?_
  refine j_gS C f_X6_9 n_30 q_30_0 dX6_copyFrom_1 ?_
  refine j_iconst C 0 dX6_copyFrom_4 (by decide) ?_
  refine j_aload_n C 0 dX6_copyFrom_5 rfl rfl ?_
  refine j_gS C f_X6_9 n_1 q_1_0 dX6_copyFrom_6 ?_
  refine j_iconst C 0 dX6_copyFrom_9 (by decide) ?_
  refine j_aload_n C 0 dX6_copyFrom_10 rfl rfl ?_
  refine j_gS C f_X6_9 n_1 q_1_0 dX6_copyFrom_11 ?_
  refine j_alen C 6 n_2 (by decide) dX6_copyFrom_14 ?_
  refine j_copy C wd_1306 wd_844 wd_843 wd_128 (Nat.le_of_ble_eq_true rfl) (Nat.le_of_ble_eq_true rfl) hm dX6_copyFrom_15 (fun hm => ?_)
  refine j_aload_n C 1 dX6_copyFrom_18 rfl rfl ?_
  refine j_nmH hm (fun h1 hm => ?_)
  refine j_gS C f_X6_15 n_30 q_30_1 dX6_copyFrom_19 ?_
  refine j_iconst C 0 dX6_copyFrom_22 (by decide) ?_
  refine j_aload_n C 0 dX6_copyFrom_23 rfl rfl ?_
  refine j_gS C f_X6_15 n_1 q_1_1 dX6_copyFrom_24 ?_
  refine j_iconst C 0 dX6_copyFrom_27 (by decide) ?_
  refine j_aload_n C 0 dX6_copyFrom_28 rfl rfl ?_
  refine j_gS C f_X6_15 n_1 q_1_1 dX6_copyFrom_29 ?_
  refine j_alen C 24 n_3 (by decide) dX6_copyFrom_32 ?_
  refine j_copy C wd_1306 wd_844 wd_843 wd_128 (Nat.le_of_ble_eq_true rfl) (Nat.le_of_ble_eq_true rfl) hm dX6_copyFrom_33 (fun hm => ?_)
  refine j_aload_n C 1 dX6_copyFrom_36 rfl rfl ?_
  refine j_nmH hm (fun h2 hm => ?_)
  refine j_gS C f_X6_26 n_30 q_30_2 dX6_copyFrom_37 ?_
  refine j_iconst C 0 dX6_copyFrom_40 (by decide) ?_
  refine j_aload_n C 0 dX6_copyFrom_41 rfl rfl ?_
  refine j_gS C f_X6_26 n_1 q_1_2 dX6_copyFrom_42 ?_
  refine j_iconst C 0 dX6_copyFrom_45 (by decide) ?_
  refine j_aload_n C 0 dX6_copyFrom_46 rfl rfl ?_
  refine j_gS C f_X6_26 n_1 q_1_2 dX6_copyFrom_47 ?_
  refine j_alen C 11 n_4 (by decide) dX6_copyFrom_50 ?_
  refine j_copy C wd_1306 wd_844 wd_843 wd_128 (Nat.le_of_ble_eq_true rfl) (Nat.le_of_ble_eq_true rfl) hm dX6_copyFrom_51 (fun hm => ?_)
  refine j_aload_n C 1 dX6_copyFrom_54 rfl rfl ?_
  refine j_nmH hm (fun h3 hm => ?_)
  refine j_gS C f_X6_29 n_30 q_30_3 dX6_copyFrom_55 ?_
  refine j_iconst C 0 dX6_copyFrom_58 (by decide) ?_
  refine j_aload_n C 0 dX6_copyFrom_59 rfl rfl ?_
  refine j_gS C f_X6_29 n_1 q_1_3 dX6_copyFrom_60 ?_
  refine j_iconst C 0 dX6_copyFrom_63 (by decide) ?_
  refine j_aload_n C 0 dX6_copyFrom_64 rfl rfl ?_
  refine j_gS C f_X6_29 n_1 q_1_3 dX6_copyFrom_65 ?_
  refine j_alen C 50 n_5 (by decide) dX6_copyFrom_68 ?_
  refine j_copy C wd_1306 wd_844 wd_843 wd_128 (Nat.le_of_ble_eq_true rfl) (Nat.le_of_ble_eq_true rfl) hm dX6_copyFrom_69 (fun hm => ?_)
  refine j_iconst C 0 dX6_copyFrom_72 (by decide) ?_
  refine j_istore_n C [(2, .int ((0 : Int32))), (0, .ref (G.1 + 1)), (1, .ref (G.1 + 30))] dX6_copyFrom_73 rfl (by decide) rfl ?_
  refine j_sub (L' := [(0, .ref (G.1 + 1)), (1, .ref (G.1 + 30)), (2, .int ((0 : Int32)))]) [1, 2, 0] rfl ?_
  exact k_State_copyFrom_30_74 C O hm
theorem c_State_copyFrom_30 {G : jG} {l : Launch} {h : Hp} {out : Hp} (hm : s_State_copyFrom_30 h = some out) : mt G l yX6_copyFrom cX6_copyFrom 3 (none) 1 70 [.ref (G.1 + 1), .ref (G.1 + 30)] h none out :=
  mt_of (by decide) (Nat.le_of_ble_eq_true rfl) _ rfl (fun X I C O => w_State_copyFrom_30 C O hm)
noncomputable def s_Race_back (v1 : Int32) (h : Hp) : Option (Int32 × Hp) :=
  (s_Race_isWithin v1 ((0 : Int32)) ((1 : Int32)) h).bind fun u1 => if u1 = 0 then
    (s_Race_refuse ((-1 : Int32)) h).bind fun u10 => some (u10.1, u10.2)
  else
    ib v1 2 <| if (hI h 44 (ix v1)) = 0 then
      (s_Race_refuse ((-2 : Int32)) h).bind fun u9 => some (u9.1, u9.2)
    else
      ib v1 2 <| if (ix v1) = 0 then
        (s_State_copyFrom_16 h).bind fun u3 => (s_Race_forgetLevels u3).bind fun u4 => (s_Race_grant ((0 : Int32)) u4).bind fun u5 => some (u5.1, u5.2)
      else
        (s_State_copyFrom_30 h).bind fun u6 => (s_Race_forgetLevels u6).bind fun u7 => (s_Race_grant ((0 : Int32)) u7).bind fun u8 => some (u8.1, u8.2)
def O_Race_back (G : jG) (X : jX) (out : (Int32 × Hp)) : Prop := jO G X (some .int) (some (.int out.1)) out.2
theorem w_Race_back {G : jG} {X : jX} (C : jC G X cX11_back 2 RX11 5 154) {v1 : Int32} {h : Hp} {out : (Int32 × Hp)} (O : (O_Race_back G X) out) (hm : s_Race_back v1 h = some out) : J G X 0 [(0, .ref (G.1 + 0)), (1, .int v1)] [] h := by
  unfold s_Race_back at hm
  refine j_iload_n C 1 dX11_back_0 rfl rfl ?_
  refine j_iconst C 0 dX11_back_1 (by decide) ?_
  refine j_iconst C 1 dX11_back_2 (by decide) ?_
  refine j_cS C l_X11_102 [.int v1, .int ((0 : Int32)), .int ((1 : Int32))] [] (fun u1 => some (.int u1)) (fun _ => h) (fun u1 => [.int u1]) hm (fun l u hu => c_Race_isWithin hu) rfl (Nat.le_of_ble_eq_true rfl) rfl (Nat.le_of_ble_eq_true rfl) (Nat.le_of_ble_eq_true rfl) (fun _ => rfl) dX11_back_3 (fun u1 hm => ?_)
  refine j_ifne C 15 dX11_back_6 (by decide) hm (fun hm => ?_) (fun hm => ?_)
  · refine j_aload_n C 0 dX11_back_9 rfl rfl ?_
    refine j_iconst C (-1 : Int32) dX11_back_10 (by decide) ?_
    refine j_cV C l_X11_112 [.int ((-1 : Int32))] [] (fun u10 => some (.int u10.1)) (fun u10 => u10.2) (fun u10 => [.int u10.1]) n_0 hm (fun l u hu => c_Race_refuse hu) rfl (Nat.le_of_ble_eq_true rfl) rfl (Nat.le_of_ble_eq_true rfl) (Nat.le_of_ble_eq_true rfl) (fun _ => rfl) dX11_back_11 (fun u10 hm => ?_)
    obtain rfl := Option.some.inj hm
    exact j_iret C O dX11_back_14
  · refine j_aload_n C 0 dX11_back_15 rfl rfl ?_
    refine j_gS C f_X11_20 n_0 q_0_2 dX11_back_16 ?_
    refine j_iload_n C 1 dX11_back_19 rfl rfl ?_
    refine j_zald C n_44 hm dX11_back_20 (fun hm => ?_)
    refine j_ifne C 31 dX11_back_21 (by decide) hm (fun hm => ?_) (fun hm => ?_)
    · refine j_aload_n C 0 dX11_back_24 rfl rfl ?_
      refine j_bipush C (-2 : Int32) dX11_back_25 (by decide) ?_
      refine j_cV C l_X11_112 [.int ((-2 : Int32))] [] (fun u9 => some (.int u9.1)) (fun u9 => u9.2) (fun u9 => [.int u9.1]) n_0 hm (fun l u hu => c_Race_refuse hu) rfl (Nat.le_of_ble_eq_true rfl) rfl (Nat.le_of_ble_eq_true rfl) (Nat.le_of_ble_eq_true rfl) (fun _ => rfl) dX11_back_27 (fun u9 hm => ?_)
      obtain rfl := Option.some.inj hm
      exact j_iret C O dX11_back_30
    · refine j_aload_n C 0 dX11_back_31 rfl rfl ?_
      refine j_gS C f_X11_10 n_0 q_0_0 dX11_back_32 ?_
      refine j_aload_n C 0 dX11_back_35 rfl rfl ?_
      refine j_gS C f_X11_16 n_0 q_0_1 dX11_back_36 ?_
      refine j_iload_n C 1 dX11_back_39 rfl rfl ?_
      obtain ⟨hm_i, hm⟩ := ib_inv hm
      rcases if_inv hm with ⟨c2, hm⟩ | ⟨c2, hm⟩
      · refine j_img16 C hm_i c2 dX11_back_40 ?_
        refine j_cV C l_X11_369 [.ref (G.1 + 16)] [] (fun _ => none) (fun u3 => u3) (fun u3 => []) n_1 hm (fun l u hu => c_State_copyFrom_16 hu) rfl (Nat.le_of_ble_eq_true rfl) rfl (Nat.le_of_ble_eq_true rfl) (Nat.le_of_ble_eq_true rfl) (fun _ => rfl) dX11_back_41 (fun u3 hm => ?_)
        refine j_aload_n C 0 dX11_back_44 rfl rfl ?_
        refine j_cV C l_X11_119 [] [] (fun _ => none) (fun u4 => u4) (fun u4 => []) n_0 hm (fun l u hu => c_Race_forgetLevels hu) rfl (Nat.le_of_ble_eq_true rfl) rfl (Nat.le_of_ble_eq_true rfl) (Nat.le_of_ble_eq_true rfl) (fun _ => rfl) dX11_back_45 (fun u4 hm => ?_)
        refine j_aload_n C 0 dX11_back_48 rfl rfl ?_
        refine j_iconst C 0 dX11_back_49 (by decide) ?_
        refine j_cV C l_X11_122 [.int ((0 : Int32))] [] (fun u5 => some (.int u5.1)) (fun u5 => u5.2) (fun u5 => [.int u5.1]) n_0 hm (fun l u hu => c_Race_grant hu) rfl (Nat.le_of_ble_eq_true rfl) rfl (Nat.le_of_ble_eq_true rfl) (Nat.le_of_ble_eq_true rfl) (fun _ => rfl) dX11_back_50 (fun u5 hm => ?_)
        obtain rfl := Option.some.inj hm
        exact j_iret C O dX11_back_53
      · refine j_img30 C hm_i c2 dX11_back_40 ?_
        refine j_cV C l_X11_369 [.ref (G.1 + 30)] [] (fun _ => none) (fun u6 => u6) (fun u6 => []) n_1 hm (fun l u hu => c_State_copyFrom_30 hu) rfl (Nat.le_of_ble_eq_true rfl) rfl (Nat.le_of_ble_eq_true rfl) (Nat.le_of_ble_eq_true rfl) (fun _ => rfl) dX11_back_41 (fun u6 hm => ?_)
        refine j_aload_n C 0 dX11_back_44 rfl rfl ?_
        refine j_cV C l_X11_119 [] [] (fun _ => none) (fun u7 => u7) (fun u7 => []) n_0 hm (fun l u hu => c_Race_forgetLevels hu) rfl (Nat.le_of_ble_eq_true rfl) rfl (Nat.le_of_ble_eq_true rfl) (Nat.le_of_ble_eq_true rfl) (fun _ => rfl) dX11_back_45 (fun u7 hm => ?_)
        refine j_aload_n C 0 dX11_back_48 rfl rfl ?_
        refine j_iconst C 0 dX11_back_49 (by decide) ?_
        refine j_cV C l_X11_122 [.int ((0 : Int32))] [] (fun u8 => some (.int u8.1)) (fun u8 => u8.2) (fun u8 => [.int u8.1]) n_0 hm (fun l u hu => c_Race_grant hu) rfl (Nat.le_of_ble_eq_true rfl) rfl (Nat.le_of_ble_eq_true rfl) (Nat.le_of_ble_eq_true rfl) (fun _ => rfl) dX11_back_50 (fun u8 hm => ?_)
        obtain rfl := Option.some.inj hm
        exact j_iret C O dX11_back_53
theorem c_Race_back {G : jG} {l : Launch} {v1 : Int32} {h : Hp} {out : (Int32 × Hp)} (hm : s_Race_back v1 h = some out) : mt G l yX11_back cX11_back 2 (some .int) 5 154 [.ref (G.1 + 0), .int v1] h (some (.int out.1)) out.2 :=
  mt_of (by decide) (Nat.le_of_ble_eq_true rfl) _ rfl (fun X I C O => w_Race_back C O hm)
noncomputable def s_Race_nearest_19 (s0 : Int32) (h : Hp) : Option Int32 :=
  some (s0)
noncomputable def s_Race_nearest (v0 : Int32) (v1 : Int32) (v2 : Int32) (h : Hp) : Option Int32 :=
  if v1 ≤ v0 then
    if v0 ≤ v2 then
      s_Race_nearest_19 v0 h
    else
      s_Race_nearest_19 v2 h
  else
    s_Race_nearest_19 v1 h
def O_Race_nearest (G : jG) (X : jX) (h : Hp) (out : Int32) : Prop := jO G X (some .int) (some (.int out)) h
theorem w_Race_nearest_19 {G : jG} {X : jX} (C : jC G X cX11_nearest 3 RX11 1 70) {s0 : Int32} {h : Hp} {out : Int32} (O : (O_Race_nearest G X h) out) (hm : s_Race_nearest_19 s0 h = some out) : J G X 19 [] [.int s0] h := by
  unfold s_Race_nearest_19 at hm
  obtain rfl := Option.some.inj hm
  exact j_iret C O dX11_nearest_19
theorem w_Race_nearest {G : jG} {X : jX} (C : jC G X cX11_nearest 3 RX11 1 70) {v0 : Int32} {v1 : Int32} {v2 : Int32} {h : Hp} {out : Int32} (O : (O_Race_nearest G X h) out) (hm : s_Race_nearest v0 v1 v2 h = some out) : J G X 0 [(0, .int v0), (1, .int v1), (2, .int v2)] [] h := by
  unfold s_Race_nearest at hm
  refine j_iload_n C 0 dX11_nearest_0 rfl rfl ?_
  refine j_iload_n C 1 dX11_nearest_1 rfl rfl ?_
  refine j_if_icmpge C 9 dX11_nearest_2 (by decide) hm (fun hm => ?_) (fun hm => ?_)
  · refine j_iload_n C 0 dX11_nearest_9 rfl rfl ?_
    refine j_iload_n C 2 dX11_nearest_10 rfl rfl ?_
    refine j_if_icmple C 18 dX11_nearest_11 (by decide) hm (fun hm => ?_) (fun hm => ?_)
    · refine j_iload_n C 0 dX11_nearest_18 rfl rfl ?_
      refine j_sub (L' := []) [] rfl ?_
      exact w_Race_nearest_19 C O hm
    · refine j_iload_n C 2 dX11_nearest_14 rfl rfl ?_
      refine j_goto C 19 dX11_nearest_15 (by decide) ?_
      refine j_sub (L' := []) [] rfl ?_
      exact w_Race_nearest_19 C O hm
  · refine j_iload_n C 1 dX11_nearest_5 rfl rfl ?_
    refine j_goto C 19 dX11_nearest_6 (by decide) ?_
    refine j_sub (L' := []) [] rfl ?_
    exact w_Race_nearest_19 C O hm
theorem c_Race_nearest {G : jG} {l : Launch} {v0 : Int32} {v1 : Int32} {v2 : Int32} {h : Hp} {out : Int32} (hm : s_Race_nearest v0 v1 v2 h = some out) : mt G l yX11_nearest cX11_nearest 3 (some .int) 1 70 [.int v0, .int v1, .int v2] h (some (.int out)) h :=
  mt_of (by decide) (Nat.le_of_ble_eq_true rfl) _ rfl (fun X I C O => w_Race_nearest C O hm)
noncomputable def s_State_lawInForce_31 (s0 : Option Nat) (h : Hp) : Option (Option Nat) :=
  some (s0)
noncomputable def s_State_lawInForce_30 (h : Hp) : Option (Option Nat) :=
  s_State_lawInForce_31 none h
noncomputable def s_State_lawInForce (h : Hp) : Option (Option Nat) :=
  if (hI h 1 14) < 0 then
    s_State_lawInForce_30 h
  else
    if (hI h 1 13) ≤ (hI h 1 14) then
      s_State_lawInForce_30 h
    else
      ib (hI h 1 14) 6 <| s_State_lawInForce_31 (hR h 6 (ix (hI h 1 14))) h
def O_State_lawInForce (G : jG) (X : jX) (h : Hp) (out : (Option Nat)) : Prop := jO G X (some (.object "SlackRace$Law")) (some (rv G out)) h
theorem w_State_lawInForce_31 {G : jG} {X : jX} (C : jC G X cX6_lawInForce 1 RX6 1 70) {s0 : Option Nat} {h : Hp} {out : (Option Nat)} (O : (O_State_lawInForce G X h) out) (hm : s_State_lawInForce_31 s0 h = some out) : J G X 31 [] [rv G s0] h := by
  unfold s_State_lawInForce_31 at hm
  obtain rfl := Option.some.inj hm
  exact j_aret C O (Or.inl ⟨_, rfl⟩) (rv_or _) dX6_lawInForce_31
theorem w_State_lawInForce_30 {G : jG} {X : jX} (C : jC G X cX6_lawInForce 1 RX6 1 70) {h : Hp} {out : (Option Nat)} (O : (O_State_lawInForce G X h) out) (hm : s_State_lawInForce_30 h = some out) : J G X 30 [] [] h := by
  unfold s_State_lawInForce_30 at hm
  refine j_null C dX6_lawInForce_30 ?_
  refine j_sub (L' := []) [] rfl ?_
  exact w_State_lawInForce_31 C O hm
theorem w_State_lawInForce {G : jG} {X : jX} (C : jC G X cX6_lawInForce 1 RX6 1 70) {h : Hp} {out : (Option Nat)} (O : (O_State_lawInForce G X h) out) (hm : s_State_lawInForce h = some out) : J G X 0 [(0, .ref (G.1 + 1))] [] h := by
  unfold s_State_lawInForce at hm
  refine j_aload_n C 0 dX6_lawInForce_0 rfl rfl ?_
  refine j_gI C f_X6_66 n_1 dX6_lawInForce_1 ?_
  refine j_iflt C 30 dX6_lawInForce_4 (by decide) hm (fun hm => ?_) (fun hm => ?_)
  · refine j_sub (L' := []) [] rfl ?_
    exact w_State_lawInForce_30 C O hm
  · refine j_aload_n C 0 dX6_lawInForce_7 rfl rfl ?_
    refine j_gI C f_X6_66 n_1 dX6_lawInForce_8 ?_
    refine j_aload_n C 0 dX6_lawInForce_11 rfl rfl ?_
    refine j_gI C f_X6_62 n_1 dX6_lawInForce_12 ?_
    refine j_if_icmpge C 30 dX6_lawInForce_15 (by decide) hm (fun hm => ?_) (fun hm => ?_)
    · refine j_sub (L' := []) [] rfl ?_
      exact w_State_lawInForce_30 C O hm
    · refine j_aload_n C 0 dX6_lawInForce_18 rfl rfl ?_
      refine j_gS C f_X6_34 n_1 q_1_4 dX6_lawInForce_19 ?_
      refine j_aload_n C 0 dX6_lawInForce_22 rfl rfl ?_
      refine j_gI C f_X6_66 n_1 dX6_lawInForce_23 ?_
      refine j_aald C n_6 (by decide) (by decide) (p := 5) rfl hm dX6_lawInForce_26 (fun hm => ?_)
      rw [rf_nil (show RS.getD 6 [] = [] from rfl)]
      refine j_goto C 31 dX6_lawInForce_27 (by decide) ?_
      refine j_sub (L' := []) [] rfl ?_
      exact w_State_lawInForce_31 C O hm
theorem c_State_lawInForce {G : jG} {l : Launch} {h : Hp} {out : (Option Nat)} (hm : s_State_lawInForce h = some out) : mt G l yX6_lawInForce cX6_lawInForce 1 (some (.object "SlackRace$Law")) 1 70 [.ref (G.1 + 1)] h (some (rv G out)) h :=
  mt_of (by decide) (Nat.le_of_ble_eq_true rfl) _ rfl (fun X I C O => w_State_lawInForce C O hm)
noncomputable def s_Teller_hear (v1 : Int32) (v2 : Int32) (v3 : Int32) (v4 : Int32) (v5 : Int32) (v6 : Int32) (v7 : Int32) (h : Hp) : Option Hp :=
  ib ((0 : Int32)) 7 <| lt (sI h 52 (ix ((0 : Int32))) v1) fun h1 => ib ((1 : Int32)) 7 <| lt (sI h1 52 (ix ((1 : Int32))) v2) fun h2 => ib ((2 : Int32)) 7 <| lt (sI h2 52 (ix ((2 : Int32))) v3) fun h3 => ib ((3 : Int32)) 7 <| lt (sI h3 52 (ix ((3 : Int32))) v4) fun h4 => ib ((4 : Int32)) 7 <| lt (sI h4 52 (ix ((4 : Int32))) v5) fun h5 => ib ((5 : Int32)) 7 <| lt (sI h5 52 (ix ((5 : Int32))) v6) fun h6 => ib ((6 : Int32)) 7 <| some (sI h6 52 (ix ((6 : Int32))) v7)
def O_Teller_hear (G : jG) (X : jX) (out : Hp) : Prop := jO G X (none) none out
theorem w_Teller_hear {G : jG} {X : jX} (C : jC G X cX8_hear 8 RX8 1 70) {v1 : Int32} {v2 : Int32} {v3 : Int32} {v4 : Int32} {v5 : Int32} {v6 : Int32} {v7 : Int32} {h : Hp} {out : Hp} (O : (O_Teller_hear G X) out) (hm : s_Teller_hear v1 v2 v3 v4 v5 v6 v7 h = some out) : J G X 0 [(0, .ref (G.1 + 51)), (1, .int v1), (2, .int v2), (3, .int v3), (4, .int v4), (5, .int v5), (6, .int v6), (7, .int v7)] [] h := by
  unfold s_Teller_hear at hm
  refine j_aload_n C 0 dX8_hear_0 rfl rfl ?_
  refine j_gS C f_X8_9 n_51 q_51_0 dX8_hear_1 ?_
  refine j_iconst C 0 dX8_hear_4 (by decide) ?_
  refine j_iload_n C 1 dX8_hear_5 rfl rfl ?_
  refine j_iast C n_52 hm dX8_hear_6 (fun hm => ?_)
  refine j_aload_n C 0 dX8_hear_7 rfl rfl ?_
  refine j_nmH hm (fun h1 hm => ?_)
  refine j_gS C f_X8_9 n_51 q_51_0 dX8_hear_8 ?_
  refine j_iconst C 1 dX8_hear_11 (by decide) ?_
  refine j_iload_n C 2 dX8_hear_12 rfl rfl ?_
  refine j_iast C n_52 hm dX8_hear_13 (fun hm => ?_)
  refine j_aload_n C 0 dX8_hear_14 rfl rfl ?_
  refine j_nmH hm (fun h2 hm => ?_)
  refine j_gS C f_X8_9 n_51 q_51_0 dX8_hear_15 ?_
  refine j_iconst C 2 dX8_hear_18 (by decide) ?_
  refine j_iload_n C 3 dX8_hear_19 rfl rfl ?_
  refine j_iast C n_52 hm dX8_hear_20 (fun hm => ?_)
  refine j_aload_n C 0 dX8_hear_21 rfl rfl ?_
  refine j_nmH hm (fun h3 hm => ?_)
  refine j_gS C f_X8_9 n_51 q_51_0 dX8_hear_22 ?_
  refine j_iconst C 3 dX8_hear_25 (by decide) ?_
  refine j_iload C 4 dX8_hear_26 rfl ?_
  refine j_iast C n_52 hm dX8_hear_28 (fun hm => ?_)
  refine j_aload_n C 0 dX8_hear_29 rfl rfl ?_
  refine j_nmH hm (fun h4 hm => ?_)
  refine j_gS C f_X8_9 n_51 q_51_0 dX8_hear_30 ?_
  refine j_iconst C 4 dX8_hear_33 (by decide) ?_
  refine j_iload C 5 dX8_hear_34 rfl ?_
  refine j_iast C n_52 hm dX8_hear_36 (fun hm => ?_)
  refine j_aload_n C 0 dX8_hear_37 rfl rfl ?_
  refine j_nmH hm (fun h5 hm => ?_)
  refine j_gS C f_X8_9 n_51 q_51_0 dX8_hear_38 ?_
  refine j_iconst C 5 dX8_hear_41 (by decide) ?_
  refine j_iload C 6 dX8_hear_42 rfl ?_
  refine j_iast C n_52 hm dX8_hear_44 (fun hm => ?_)
  refine j_aload_n C 0 dX8_hear_45 rfl rfl ?_
  refine j_nmH hm (fun h6 hm => ?_)
  refine j_gS C f_X8_9 n_51 q_51_0 dX8_hear_46 ?_
  refine j_bipush C 6 dX8_hear_49 (by decide) ?_
  refine j_iload C 7 dX8_hear_51 rfl ?_
  refine j_iast C n_52 hm dX8_hear_53 (fun hm => ?_)
  obtain rfl := Option.some.inj hm
  exact j_vret C O dX8_hear_54
theorem c_Teller_hear {G : jG} {l : Launch} {v1 : Int32} {v2 : Int32} {v3 : Int32} {v4 : Int32} {v5 : Int32} {v6 : Int32} {v7 : Int32} {h : Hp} {out : Hp} (hm : s_Teller_hear v1 v2 v3 v4 v5 v6 v7 h = some out) : mt G l yX8_hear cX8_hear 8 (none) 1 70 [.ref (G.1 + 51), .int v1, .int v2, .int v3, .int v4, .int v5, .int v6, .int v7] h none out :=
  mt_of (by decide) (Nat.le_of_ble_eq_true rfl) _ rfl (fun X I C O => w_Teller_hear C O hm)
noncomputable def s_Teller_joins_171 (h : Hp) : Option (Int32 × Hp) :=
  some ((0 : Int32), h)
noncomputable def s_Teller_joins_153 (v2 : Int32) (v7 : Int64) (h : Hp) : Option (Int32 × Hp) :=
  if 0 < (lg_cmp v7 ((1000000000 : Int64))) then
    s_Teller_joins_171 h
  else
    if 0 ≤ (lg_cmp v7 ((-1000000000 : Int64))) then
      ib v2 64 <| some ((1 : Int32), sI h 53 (ix v2) (Int64.toInt32 v7))
    else
      s_Teller_joins_171 h
noncomputable def s_Teller_joins_117 (v2 : Int32) (s0 : Int64) (h : Hp) : Option (Int32 × Hp) :=
  s_Teller_joins_153 v2 s0 h
noncomputable def s_Teller_joins_134 (v2 : Int32) (s0 : Int64) (h : Hp) : Option (Int32 × Hp) :=
  s_Teller_joins_153 v2 s0 h
noncomputable def s_Teller_joins_151 (v2 : Int32) (s0 : Int64) (h : Hp) : Option (Int32 × Hp) :=
  s_Teller_joins_153 v2 s0 h
noncomputable def s_Teller_joins (v1 : Int32) (v2 : Int32) (h : Hp) : Option (Int32 × Hp) :=
  ib v2 64 <| ib (v2 + ((1 : Int32))) 64 <| lt (Int32.toInt64 (hI h 53 (ix (v2 + ((1 : Int32)))))) fun x1 => if v1 = 2 then
    s_Teller_joins_153 v2 ((Int32.toInt64 (hI h 53 (ix v2))) + x1) h
  else if v1 = 3 then
    s_Teller_joins_153 v2 ((Int32.toInt64 (hI h 53 (ix v2))) - x1) h
  else if v1 = 4 then
    s_Teller_joins_153 v2 ((Int32.toInt64 (hI h 53 (ix v2))) * x1) h
  else if v1 = 5 then
    if (lg_cmp x1 ((0 : Int64))) = 0 then
      some ((0 : Int32), h)
    else
      cnL x1 <| s_Teller_joins_153 v2 ((Int32.toInt64 (hI h 53 (ix v2))) / x1) h
  else if v1 = 6 then
    if 0 ≤ (lg_cmp (Int32.toInt64 (hI h 53 (ix v2))) x1) then
      s_Teller_joins_117 v2 ((0 : Int64)) h
    else
      s_Teller_joins_117 v2 ((1 : Int64)) h
  else if v1 = 7 then
    if (lg_cmp (Int32.toInt64 (hI h 53 (ix v2))) x1) ≤ 0 then
      s_Teller_joins_134 v2 ((0 : Int64)) h
    else
      s_Teller_joins_134 v2 ((1 : Int64)) h
  else 
    if (lg_cmp (Int32.toInt64 (hI h 53 (ix v2))) x1) = 0 then
      s_Teller_joins_151 v2 ((1 : Int64)) h
    else
      s_Teller_joins_151 v2 ((0 : Int64)) h
def O_Teller_joins (G : jG) (X : jX) (out : (Int32 × Hp)) : Prop := jO G X (some .boolean) (some (.int out.1)) out.2
theorem w_Teller_joins_171 {G : jG} {X : jX} (C : jC G X cX8_joins 9 RX8 1 70) {h : Hp} {out : (Int32 × Hp)} (O : (O_Teller_joins G X) out) (hm : s_Teller_joins_171 h = some out) : J G X 171 [] [] h := by
  unfold s_Teller_joins_171 at hm
  refine j_iconst C 0 dX8_joins_171 (by decide) ?_
  obtain rfl := Option.some.inj hm
  exact j_zret C O (by decide) dX8_joins_172
theorem w_Teller_joins_153 {G : jG} {X : jX} (C : jC G X cX8_joins 9 RX8 1 70) {v2 : Int32} {v7 : Int64} {h : Hp} {out : (Int32 × Hp)} (O : (O_Teller_joins G X) out) (hm : s_Teller_joins_153 v2 v7 h = some out) : J G X 153 [(0, .ref (G.1 + 51)), (2, .int v2), (7, .long v7)] [] h := by
  unfold s_Teller_joins_153 at hm
  refine j_lload C 2 dX8_joins_153 rfl ?_
  refine j_ldc2 C wd_933 dX8_joins_155 ?_
  refine j_lcmp C dX8_joins_158 ?_
  refine j_ifgt C 171 dX8_joins_159 (by decide) hm (fun hm => ?_) (fun hm => ?_)
  · refine j_sub (L' := []) [] rfl ?_
    exact w_Teller_joins_171 C O hm
  · refine j_lload C 2 dX8_joins_162 rfl ?_
    refine j_ldc2 C wd_934 dX8_joins_164 ?_
    refine j_lcmp C dX8_joins_167 ?_
    refine j_ifge C 173 dX8_joins_168 (by decide) hm (fun hm => ?_) (fun hm => ?_)
    · refine j_aload_n C 0 dX8_joins_173 rfl rfl ?_
      refine j_gS C f_X8_13 n_51 q_51_1 dX8_joins_174 ?_
      refine j_iload_n C 1 dX8_joins_177 rfl rfl ?_
      refine j_lload C 2 dX8_joins_178 rfl ?_
      refine j_l2i C dX8_joins_180 ?_
      refine j_iast C n_53 hm dX8_joins_181 (fun hm => ?_)
      refine j_iconst C 1 dX8_joins_182 (by decide) ?_
      obtain rfl := Option.some.inj hm
      exact j_zret C O (by decide) dX8_joins_183
    · refine j_sub (L' := []) [] rfl ?_
      exact w_Teller_joins_171 C O hm
theorem w_Teller_joins_117 {G : jG} {X : jX} (C : jC G X cX8_joins 9 RX8 1 70) {v2 : Int32} {s0 : Int64} {h : Hp} {out : (Int32 × Hp)} (O : (O_Teller_joins G X) out) (hm : s_Teller_joins_117 v2 s0 h = some out) : J G X 117 [(0, .ref (G.1 + 51)), (2, .int v2)] [.long s0] h := by
  unfold s_Teller_joins_117 at hm
  refine j_lstore C [(7, .long s0), (0, .ref (G.1 + 51)), (2, .int v2)] dX8_joins_117 (by decide) rfl ?_
  refine j_goto C 153 dX8_joins_119 (by decide) ?_
  refine j_sub (L' := [(0, .ref (G.1 + 51)), (2, .int v2), (7, .long s0)]) [1, 2, 0] rfl ?_
  exact w_Teller_joins_153 C O hm
theorem w_Teller_joins_134 {G : jG} {X : jX} (C : jC G X cX8_joins 9 RX8 1 70) {v2 : Int32} {s0 : Int64} {h : Hp} {out : (Int32 × Hp)} (O : (O_Teller_joins G X) out) (hm : s_Teller_joins_134 v2 s0 h = some out) : J G X 134 [(0, .ref (G.1 + 51)), (2, .int v2)] [.long s0] h := by
  unfold s_Teller_joins_134 at hm
  refine j_lstore C [(7, .long s0), (0, .ref (G.1 + 51)), (2, .int v2)] dX8_joins_134 (by decide) rfl ?_
  refine j_goto C 153 dX8_joins_136 (by decide) ?_
  refine j_sub (L' := [(0, .ref (G.1 + 51)), (2, .int v2), (7, .long s0)]) [1, 2, 0] rfl ?_
  exact w_Teller_joins_153 C O hm
theorem w_Teller_joins_151 {G : jG} {X : jX} (C : jC G X cX8_joins 9 RX8 1 70) {v2 : Int32} {s0 : Int64} {h : Hp} {out : (Int32 × Hp)} (O : (O_Teller_joins G X) out) (hm : s_Teller_joins_151 v2 s0 h = some out) : J G X 151 [(0, .ref (G.1 + 51)), (2, .int v2)] [.long s0] h := by
  unfold s_Teller_joins_151 at hm
  refine j_lstore C [(7, .long s0), (0, .ref (G.1 + 51)), (2, .int v2)] dX8_joins_151 (by decide) rfl ?_
  refine j_sub (L' := [(0, .ref (G.1 + 51)), (2, .int v2), (7, .long s0)]) [1, 2, 0] rfl ?_
  exact w_Teller_joins_153 C O hm
theorem w_Teller_joins {G : jG} {X : jX} (C : jC G X cX8_joins 9 RX8 1 70) {v1 : Int32} {v2 : Int32} {h : Hp} {out : (Int32 × Hp)} (O : (O_Teller_joins G X) out) (hm : s_Teller_joins v1 v2 h = some out) : J G X 0 [(0, .ref (G.1 + 51)), (1, .int v1), (2, .int v2)] [] h := by
  unfold s_Teller_joins at hm
  refine j_aload_n C 0 dX8_joins_0 rfl rfl ?_
  refine j_gS C f_X8_13 n_51 q_51_1 dX8_joins_1 ?_
  refine j_iload_n C 2 dX8_joins_4 rfl rfl ?_
  refine j_iald C n_53 hm dX8_joins_5 (fun hm => ?_)
  refine j_i2l C dX8_joins_6 ?_
  refine j_lstore_n C [(3, .long (Int32.toInt64 (hI h 53 (ix v2)))), (0, .ref (G.1 + 51)), (1, .int v1), (2, .int v2)] dX8_joins_7 rfl (by decide) rfl ?_
  refine j_aload_n C 1 dX8_joins_8 rfl rfl ?_
  refine j_gS C f_X8_13 n_51 q_51_1 dX8_joins_9 ?_
  refine j_iload_n C 3 dX8_joins_12 rfl rfl ?_
  refine j_iconst C 1 dX8_joins_13 (by decide) ?_
  refine j_iadd C dX8_joins_14 ?_
  refine j_iald C n_53 hm dX8_joins_15 (fun hm => ?_)
  refine j_i2l C dX8_joins_16 ?_
  refine j_nmL hm (fun x1 hm => ?_)
  refine j_lstore C [(5, .long x1), (3, .long (Int32.toInt64 (hI h 53 (ix v2)))), (0, .ref (G.1 + 51)), (1, .int v1), (2, .int v2)] dX8_joins_17 (by decide) rfl ?_
  refine j_iload_n C 3 dX8_joins_19 rfl rfl ?_
  rcases if_inv hm with ⟨c3, hm⟩ | ⟨c3, hm⟩
  · refine j_swIn C 2 60 dX8_joins_20 c3 (by decide) (by decide) rfl (by decide) ?_
    refine j_lload_n C 1 dX8_joins_60 rfl rfl ?_
    refine j_lload C 0 dX8_joins_61 rfl ?_
    refine j_ladd C dX8_joins_63 ?_
    refine j_lstore C [(7, .long ((Int32.toInt64 (hI h 53 (ix v2))) + x1)), (5, .long x1), (3, .long (Int32.toInt64 (hI h 53 (ix v2)))), (0, .ref (G.1 + 51)), (1, .int v1), (2, .int v2)] dX8_joins_64 (by decide) rfl ?_
    refine j_goto C 153 dX8_joins_66 (by decide) ?_
    refine j_sub (L' := [(0, .ref (G.1 + 51)), (2, .int v2), (7, .long ((Int32.toInt64 (hI h 53 (ix v2))) + x1))]) [3, 5, 0] rfl ?_
    exact w_Teller_joins_153 C O hm
  rcases if_inv hm with ⟨c4, hm⟩ | ⟨c4, hm⟩
  · refine j_swIn C 3 69 dX8_joins_20 c4 (by decide) (by decide) rfl (by decide) ?_
    refine j_lload_n C 1 dX8_joins_69 rfl rfl ?_
    refine j_lload C 0 dX8_joins_70 rfl ?_
    refine j_lsub C dX8_joins_72 ?_
    refine j_lstore C [(7, .long ((Int32.toInt64 (hI h 53 (ix v2))) - x1)), (5, .long x1), (3, .long (Int32.toInt64 (hI h 53 (ix v2)))), (0, .ref (G.1 + 51)), (1, .int v1), (2, .int v2)] dX8_joins_73 (by decide) rfl ?_
    refine j_goto C 153 dX8_joins_75 (by decide) ?_
    refine j_sub (L' := [(0, .ref (G.1 + 51)), (2, .int v2), (7, .long ((Int32.toInt64 (hI h 53 (ix v2))) - x1))]) [3, 5, 0] rfl ?_
    exact w_Teller_joins_153 C O hm
  rcases if_inv hm with ⟨c5, hm⟩ | ⟨c5, hm⟩
  · refine j_swIn C 4 78 dX8_joins_20 c5 (by decide) (by decide) rfl (by decide) ?_
    refine j_lload_n C 1 dX8_joins_78 rfl rfl ?_
    refine j_lload C 0 dX8_joins_79 rfl ?_
    refine j_lmul C dX8_joins_81 ?_
    refine j_lstore C [(7, .long ((Int32.toInt64 (hI h 53 (ix v2))) * x1)), (5, .long x1), (3, .long (Int32.toInt64 (hI h 53 (ix v2)))), (0, .ref (G.1 + 51)), (1, .int v1), (2, .int v2)] dX8_joins_82 (by decide) rfl ?_
    refine j_goto C 153 dX8_joins_84 (by decide) ?_
    refine j_sub (L' := [(0, .ref (G.1 + 51)), (2, .int v2), (7, .long ((Int32.toInt64 (hI h 53 (ix v2))) * x1))]) [3, 5, 0] rfl ?_
    exact w_Teller_joins_153 C O hm
  rcases if_inv hm with ⟨c6, hm⟩ | ⟨c6, hm⟩
  · refine j_swIn C 5 87 dX8_joins_20 c6 (by decide) (by decide) rfl (by decide) ?_
    refine j_lload C 0 dX8_joins_87 rfl ?_
    refine j_lconst C 0 dX8_joins_89 (by decide) ?_
    refine j_lcmp C dX8_joins_90 ?_
    refine j_ifne C 96 dX8_joins_91 (by decide) hm (fun hm => ?_) (fun hm => ?_)
    · refine j_iconst C 0 dX8_joins_94 (by decide) ?_
      obtain rfl := Option.some.inj hm
      exact j_zret C O (by decide) dX8_joins_95
    · refine j_lload_n C 1 dX8_joins_96 rfl rfl ?_
      refine j_lload C 0 dX8_joins_97 rfl ?_
      obtain ⟨c2, hm⟩ := cnL_inv hm
      refine j_ldiv C dX8_joins_99 c2 ?_
      refine j_lstore C [(7, .long ((Int32.toInt64 (hI h 53 (ix v2))) / x1)), (5, .long x1), (3, .long (Int32.toInt64 (hI h 53 (ix v2)))), (0, .ref (G.1 + 51)), (1, .int v1), (2, .int v2)] dX8_joins_100 (by decide) rfl ?_
      refine j_goto C 153 dX8_joins_102 (by decide) ?_
      refine j_sub (L' := [(0, .ref (G.1 + 51)), (2, .int v2), (7, .long ((Int32.toInt64 (hI h 53 (ix v2))) / x1))]) [3, 5, 0] rfl ?_
      exact w_Teller_joins_153 C O hm
  rcases if_inv hm with ⟨c7, hm⟩ | ⟨c7, hm⟩
  · refine j_swIn C 6 105 dX8_joins_20 c7 (by decide) (by decide) rfl (by decide) ?_
    refine j_lload_n C 1 dX8_joins_105 rfl rfl ?_
    refine j_lload C 0 dX8_joins_106 rfl ?_
    refine j_lcmp C dX8_joins_108 ?_
    refine j_ifge C 116 dX8_joins_109 (by decide) hm (fun hm => ?_) (fun hm => ?_)
    · refine j_lconst C 0 dX8_joins_116 (by decide) ?_
      refine j_sub (L' := [(0, .ref (G.1 + 51)), (2, .int v2)]) [2, 4] rfl ?_
      exact w_Teller_joins_117 C O hm
    · refine j_lconst C 1 dX8_joins_112 (by decide) ?_
      refine j_goto C 117 dX8_joins_113 (by decide) ?_
      refine j_sub (L' := [(0, .ref (G.1 + 51)), (2, .int v2)]) [2, 4] rfl ?_
      exact w_Teller_joins_117 C O hm
  rcases if_inv hm with ⟨c8, hm⟩ | ⟨c8, hm⟩
  · refine j_swIn C 7 122 dX8_joins_20 c8 (by decide) (by decide) rfl (by decide) ?_
    refine j_lload_n C 1 dX8_joins_122 rfl rfl ?_
    refine j_lload C 0 dX8_joins_123 rfl ?_
    refine j_lcmp C dX8_joins_125 ?_
    refine j_ifle C 133 dX8_joins_126 (by decide) hm (fun hm => ?_) (fun hm => ?_)
    · refine j_lconst C 0 dX8_joins_133 (by decide) ?_
      refine j_sub (L' := [(0, .ref (G.1 + 51)), (2, .int v2)]) [2, 4] rfl ?_
      exact w_Teller_joins_134 C O hm
    · refine j_lconst C 1 dX8_joins_129 (by decide) ?_
      refine j_goto C 134 dX8_joins_130 (by decide) ?_
      refine j_sub (L' := [(0, .ref (G.1 + 51)), (2, .int v2)]) [2, 4] rfl ?_
      exact w_Teller_joins_134 C O hm
  refine j_tableOut C 139 dX8_joins_20 (by have e0 := sw_ne (n := 2) c3 (by decide); have e1 := sw_ne (n := 3) c4 (by decide); have e2 := sw_ne (n := 4) c5 (by decide); have e3 := sw_ne (n := 5) c6 (by decide); have e4 := sw_ne (n := 6) c7 (by decide); have e5 := sw_ne (n := 7) c8 (by decide); omega) (by decide) ?_
  refine j_lload_n C 1 dX8_joins_139 rfl rfl ?_
  refine j_lload C 0 dX8_joins_140 rfl ?_
  refine j_lcmp C dX8_joins_142 ?_
  refine j_ifne C 150 dX8_joins_143 (by decide) hm (fun hm => ?_) (fun hm => ?_)
  · refine j_lconst C 1 dX8_joins_146 (by decide) ?_
    refine j_goto C 151 dX8_joins_147 (by decide) ?_
    refine j_sub (L' := [(0, .ref (G.1 + 51)), (2, .int v2)]) [2, 4] rfl ?_
    exact w_Teller_joins_151 C O hm
  · refine j_lconst C 0 dX8_joins_150 (by decide) ?_
    refine j_sub (L' := [(0, .ref (G.1 + 51)), (2, .int v2)]) [2, 4] rfl ?_
    exact w_Teller_joins_151 C O hm
theorem c_Teller_joins {G : jG} {l : Launch} {v1 : Int32} {v2 : Int32} {h : Hp} {out : (Int32 × Hp)} (hm : s_Teller_joins v1 v2 h = some out) : mt G l yX8_joins cX8_joins 9 (some .boolean) 1 70 [.ref (G.1 + 51), .int v1, .int v2] h (some (.int out.1)) out.2 :=
  mt_of (by decide) (Nat.le_of_ble_eq_true rfl) _ rfl (fun X I C O => w_Teller_joins C O hm)
