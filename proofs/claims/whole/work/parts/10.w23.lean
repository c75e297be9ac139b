noncomputable def s_State_copyFrom_16_1_74 (v2 : Int32) (h : Hp) : Option ((Int32 × Hp) ⊕ Hp) :=
  if ((6 : Int32)) ≤ v2 then
    cy h 7 ((0 : Int32)) 22 ((0 : Int32)) ((6 : Int32)) <| lt (cpI h 7 ((0 : Int32)) 22 ((0 : Int32)) ((6 : Int32))) fun h1 => cy h1 8 ((0 : Int32)) 23 ((0 : Int32)) ((6 : Int32)) <| lt (cpI h1 8 ((0 : Int32)) 23 ((0 : Int32)) ((6 : Int32))) fun h2 => cy h2 9 ((0 : Int32)) 24 ((0 : Int32)) ((40 : Int32)) <| lt (cpI h2 9 ((0 : Int32)) 24 ((0 : Int32)) ((40 : Int32))) fun h3 => cy h3 10 ((0 : Int32)) 25 ((0 : Int32)) ((6 : Int32)) <| lt (cpI h3 10 ((0 : Int32)) 25 ((0 : Int32)) ((6 : Int32))) fun h4 => cy h4 11 ((0 : Int32)) 26 ((0 : Int32)) ((6 : Int32)) <| lt (cpI h4 11 ((0 : Int32)) 26 ((0 : Int32)) ((6 : Int32))) fun h5 => cy h5 12 ((0 : Int32)) 27 ((0 : Int32)) ((6 : Int32)) <| lt (cpI h5 12 ((0 : Int32)) 27 ((0 : Int32)) ((6 : Int32))) fun h6 => cy h6 13 ((0 : Int32)) 28 ((0 : Int32)) ((12 : Int32)) <| lt (cpI h6 13 ((0 : Int32)) 28 ((0 : Int32)) ((12 : Int32))) fun h7 => cy h7 14 ((0 : Int32)) 29 ((0 : Int32)) ((12 : Int32)) <| lt (cpI h7 14 ((0 : Int32)) 29 ((0 : Int32)) ((12 : Int32))) fun h8 => lt (sI h8 16 13 (hI h8 1 13)) fun h9 => lt (sI h9 16 14 (hI h9 1 14)) fun h10 => lt (sI h10 16 15 (hI h10 1 15)) fun h11 => lt (sI h11 16 16 (hI h11 1 16)) fun h12 => lt (sI h12 16 17 (hI h12 1 17)) fun h13 => some (.inr (sI h13 16 18 (hI h13 1 18)))
  else
    ib v2 6 <| ib v2 6 <| oq h (hR h 6 (ix v2)) 101 <| some (.inl ((v2 + (1 : Int32)), (sR h 21 (ix v2) (hR h 6 (ix v2)))))
noncomputable def s_State_copyFrom_16_1 (h : Hp) : Option Hp :=
  cy h 2 ((0 : Int32)) 17 ((0 : Int32)) ((6 : Int32)) <| lt (cpI h 2 ((0 : Int32)) 17 ((0 : Int32)) ((6 : Int32))) fun h1 => cy h1 3 ((0 : Int32)) 18 ((0 : Int32)) ((24 : Int32)) <| lt (cpI h1 3 ((0 : Int32)) 18 ((0 : Int32)) ((24 : Int32))) fun h2 => cy h2 4 ((0 : Int32)) 19 ((0 : Int32)) ((11 : Int32)) <| lt (cpI h2 4 ((0 : Int32)) 19 ((0 : Int32)) ((11 : Int32))) fun h3 => cy h3 5 ((0 : Int32)) 20 ((0 : Int32)) ((50 : Int32)) <| lp (fun q => s_State_copyFrom_16_1_74 q.1 q.2) (((0 : Int32)), (cpI h3 5 ((0 : Int32)) 20 ((0 : Int32)) ((50 : Int32))))
def O_State_copyFrom_16_1 (G : jG) (X : jX) (out : Hp) : Prop := jO G X (none) none out
def P_State_copyFrom_16_1_74 (G : jG) (X : jX) (q : Int32 × Hp) : Prop := J G X 74 [(0, .ref (G.1 + 16)), (1, .ref (G.1 + 1)), (2, .int q.1)] [] q.2
def O_State_copyFrom_16_1_74 (G : jG) (X : jX) (t : ((Int32 × Hp) ⊕ Hp)) : Prop := Sum.elim (P_State_copyFrom_16_1_74 G X) (O_State_copyFrom_16_1 G X) t
theorem w_State_copyFrom_16_1_74 {G : jG} {X : jX} (C : jC G X cX6_copyFrom 3 RX6 1 70) {v2 : Int32} {h : Hp} {out : ((Int32 × Hp) ⊕ Hp)} (O : (O_State_copyFrom_16_1_74 G X) out) (hm : s_State_copyFrom_16_1_74 v2 h = some out) : J G X 74 [(0, .ref (G.1 + 16)), (1, .ref (G.1 + 1)), (2, .int v2)] [] h := by
  unfold s_State_copyFrom_16_1_74 at hm
  refine j_iload_n C 2 dX6_copyFrom_74 rfl rfl ?_
  refine j_bipush C 6 dX6_copyFrom_75 (by decide) ?_
  refine j_if_icmpge C 98 dX6_copyFrom_77 (by decide) hm (fun hm => ?_) (fun hm => ?_)
  · refine j_aload_n C 1 dX6_copyFrom_98 rfl rfl ?_
    refine j_gS C f_X6_38 n_1 q_1_5 dX6_copyFrom_99 ?_
    refine j_iconst C 0 dX6_copyFrom_102 (by decide) ?_
    refine j_aload_n C 0 dX6_copyFrom_103 rfl rfl ?_
    refine j_gS C f_X6_38 n_16 q_16_5 dX6_copyFrom_104 ?_
    refine j_iconst C 0 dX6_copyFrom_107 (by decide) ?_
    refine j_aload_n C 0 dX6_copyFrom_108 rfl rfl ?_
    refine j_gS C f_X6_38 n_16 q_16_5 dX6_copyFrom_109 ?_
    refine j_alen C 6 n_22 (by decide) dX6_copyFrom_112 ?_
    refine j_copy C wd_1306 wd_844 wd_843 wd_128 (Nat.le_of_ble_eq_true rfl) (Nat.le_of_ble_eq_true rfl) hm dX6_copyFrom_113 (fun hm => ?_)
    refine j_aload_n C 1 dX6_copyFrom_116 rfl rfl ?_
    refine j_nmH hm (fun h1 hm => ?_)
    refine j_gS C f_X6_41 n_1 q_1_6 dX6_copyFrom_117 ?_
    refine j_iconst C 0 dX6_copyFrom_120 (by decide) ?_
    refine j_aload_n C 0 dX6_copyFrom_121 rfl rfl ?_
    refine j_gS C f_X6_41 n_16 q_16_6 dX6_copyFrom_122 ?_
    refine j_iconst C 0 dX6_copyFrom_125 (by decide) ?_
    refine j_aload_n C 0 dX6_copyFrom_126 rfl rfl ?_
    refine j_gS C f_X6_41 n_16 q_16_6 dX6_copyFrom_127 ?_
    refine j_alen C 6 n_23 (by decide) dX6_copyFrom_130 ?_
    refine j_copy C wd_1306 wd_844 wd_843 wd_128 (Nat.le_of_ble_eq_true rfl) (Nat.le_of_ble_eq_true rfl) hm dX6_copyFrom_131 (fun hm => ?_)
    refine j_aload_n C 1 dX6_copyFrom_134 rfl rfl ?_
    refine j_nmH hm (fun h2 hm => ?_)
    refine j_gS C f_X6_44 n_1 q_1_7 dX6_copyFrom_135 ?_
    refine j_iconst C 0 dX6_copyFrom_138 (by decide) ?_
    refine j_aload_n C 0 dX6_copyFrom_139 rfl rfl ?_
    refine j_gS C f_X6_44 n_16 q_16_7 dX6_copyFrom_140 ?_
    refine j_iconst C 0 dX6_copyFrom_143 (by decide) ?_
    refine j_aload_n C 0 dX6_copyFrom_144 rfl rfl ?_
    refine j_gS C f_X6_44 n_16 q_16_7 dX6_copyFrom_145 ?_
    refine j_alen C 40 n_24 (by decide) dX6_copyFrom_148 ?_
    refine j_copy C wd_1306 wd_844 wd_843 wd_128 (Nat.le_of_ble_eq_true rfl) (Nat.le_of_ble_eq_true rfl) hm dX6_copyFrom_149 (fun hm => ?_)
    refine j_aload_n C 1 dX6_copyFrom_152 rfl rfl ?_
    refine j_nmH hm (fun h3 hm => ?_)
    refine j_gS C f_X6_47 n_1 q_1_8 dX6_copyFrom_153 ?_
    refine j_iconst C 0 dX6_copyFrom_156 (by decide) ?_
    refine j_aload_n C 0 dX6_copyFrom_157 rfl rfl ?_
    refine j_gS C f_X6_47 n_16 q_16_8 dX6_copyFrom_158 ?_
    refine j_iconst C 0 dX6_copyFrom_161 (by decide) ?_
    refine j_aload_n C 0 dX6_copyFrom_162 rfl rfl ?_
    refine j_gS C f_X6_47 n_16 q_16_8 dX6_copyFrom_163 ?_
    refine j_alen C 6 n_25 (by decide) dX6_copyFrom_166 ?_
    refine j_copy C wd_1306 wd_844 wd_843 wd_128 (Nat.le_of_ble_eq_true rfl) (Nat.le_of_ble_eq_true rfl) hm dX6_copyFrom_167 (fun hm => ?_)
    refine j_aload_n C 1 dX6_copyFrom_170 rfl rfl ?_
    refine j_nmH hm (fun h4 hm => ?_)
    refine j_gS C f_X6_50 n_1 q_1_9 dX6_copyFrom_171 ?_
    refine j_iconst C 0 dX6_copyFrom_174 (by decide) ?_
    refine j_aload_n C 0 dX6_copyFrom_175 rfl rfl ?_
    refine j_gS C f_X6_50 n_16 q_16_9 dX6_copyFrom_176 ?_
    refine j_iconst C 0 dX6_copyFrom_179 (by decide) ?_
    refine j_aload_n C 0 dX6_copyFrom_180 rfl rfl ?_
    refine j_gS C f_X6_50 n_16 q_16_9 dX6_copyFrom_181 ?_
    refine j_alen C 6 n_26 (by decide) dX6_copyFrom_184 ?_
    refine j_copy C wd_1306 wd_844 wd_843 wd_128 (Nat.le_of_ble_eq_true rfl) (Nat.le_of_ble_eq_true rfl) hm dX6_copyFrom_185 (fun hm => ?_)
    refine j_aload_n C 1 dX6_copyFrom_188 rfl rfl ?_
    refine j_nmH hm (fun h5 hm => ?_)
    refine j_gS C f_X6_53 n_1 q_1_10 dX6_copyFrom_189 ?_
    refine j_iconst C 0 dX6_copyFrom_192 (by decide) ?_
    refine j_aload_n C 0 dX6_copyFrom_193 rfl rfl ?_
    refine j_gS C f_X6_53 n_16 q_16_10 dX6_copyFrom_194 ?_
    refine j_iconst C 0 dX6_copyFrom_197 (by decide) ?_
    refine j_aload_n C 0 dX6_copyFrom_198 rfl rfl ?_
    refine j_gS C f_X6_53 n_16 q_16_10 dX6_copyFrom_199 ?_
    refine j_alen C 6 n_27 (by decide) dX6_copyFrom_202 ?_
    refine j_copy C wd_1306 wd_844 wd_843 wd_128 (Nat.le_of_ble_eq_true rfl) (Nat.le_of_ble_eq_true rfl) hm dX6_copyFrom_203 (fun hm => ?_)
    refine j_aload_n C 1 dX6_copyFrom_206 rfl rfl ?_
    refine j_nmH hm (fun h6 hm => ?_)
    refine j_gS C f_X6_56 n_1 q_1_11 dX6_copyFrom_207 ?_
    refine j_iconst C 0 dX6_copyFrom_210 (by decide) ?_
    refine j_aload_n C 0 dX6_copyFrom_211 rfl rfl ?_
    refine j_gS C f_X6_56 n_16 q_16_11 dX6_copyFrom_212 ?_
    refine j_iconst C 0 dX6_copyFrom_215 (by decide) ?_
    refine j_aload_n C 0 dX6_copyFrom_216 rfl rfl ?_
    refine j_gS C f_X6_56 n_16 q_16_11 dX6_copyFrom_217 ?_
    refine j_alen C 12 n_28 (by decide) dX6_copyFrom_220 ?_
    refine j_copy C wd_1306 wd_844 wd_843 wd_128 (Nat.le_of_ble_eq_true rfl) (Nat.le_of_ble_eq_true rfl) hm dX6_copyFrom_221 (fun hm => ?_)
    refine j_aload_n C 1 dX6_copyFrom_224 rfl rfl ?_
    refine j_nmH hm (fun h7 hm => ?_)
    refine j_gS C f_X6_59 n_1 q_1_12 dX6_copyFrom_225 ?_
    refine j_iconst C 0 dX6_copyFrom_228 (by decide) ?_
    refine j_aload_n C 0 dX6_copyFrom_229 rfl rfl ?_
    refine j_gS C f_X6_59 n_16 q_16_12 dX6_copyFrom_230 ?_
    refine j_iconst C 0 dX6_copyFrom_233 (by decide) ?_
    refine j_aload_n C 0 dX6_copyFrom_234 rfl rfl ?_
    refine j_gS C f_X6_59 n_16 q_16_12 dX6_copyFrom_235 ?_
    refine j_alen C 12 n_29 (by decide) dX6_copyFrom_238 ?_
    refine j_copy C wd_1306 wd_844 wd_843 wd_128 (Nat.le_of_ble_eq_true rfl) (Nat.le_of_ble_eq_true rfl) hm dX6_copyFrom_239 (fun hm => ?_)
    refine j_aload_n C 0 dX6_copyFrom_242 rfl rfl ?_
    refine j_aload_n C 1 dX6_copyFrom_243 rfl rfl ?_
    refine j_nmH hm (fun h8 hm => ?_)
    refine j_gI C f_X6_62 n_1 dX6_copyFrom_244 ?_
    refine j_pI C f_X6_62 n_16 dX6_copyFrom_247 ?_
    refine j_aload_n C 0 dX6_copyFrom_250 rfl rfl ?_
    refine j_aload_n C 1 dX6_copyFrom_251 rfl rfl ?_
    refine j_nmH hm (fun h9 hm => ?_)
    refine j_gI C f_X6_66 n_1 dX6_copyFrom_252 ?_
    refine j_pI C f_X6_66 n_16 dX6_copyFrom_255 ?_
    refine j_aload_n C 0 dX6_copyFrom_258 rfl rfl ?_
    refine j_aload_n C 1 dX6_copyFrom_259 rfl rfl ?_
    refine j_nmH hm (fun h10 hm => ?_)
    refine j_gI C f_X6_69 n_1 dX6_copyFrom_260 ?_
    refine j_pI C f_X6_69 n_16 dX6_copyFrom_263 ?_
    refine j_aload_n C 0 dX6_copyFrom_266 rfl rfl ?_
    refine j_aload_n C 1 dX6_copyFrom_267 rfl rfl ?_
    refine j_nmH hm (fun h11 hm => ?_)
    refine j_gI C f_X6_72 n_1 dX6_copyFrom_268 ?_
    refine j_pI C f_X6_72 n_16 dX6_copyFrom_271 ?_
    refine j_aload_n C 0 dX6_copyFrom_274 rfl rfl ?_
    refine j_aload_n C 1 dX6_copyFrom_275 rfl rfl ?_
    refine j_nmH hm (fun h12 hm => ?_)
    refine j_gI C f_X6_75 n_1 dX6_copyFrom_276 ?_
    refine j_pI C f_X6_75 n_16 dX6_copyFrom_279 ?_
    refine j_aload_n C 0 dX6_copyFrom_282 rfl rfl ?_
    refine j_aload_n C 1 dX6_copyFrom_283 rfl rfl ?_
    refine j_nmH hm (fun h13 hm => ?_)
    refine j_gI C f_X6_78 n_1 dX6_copyFrom_284 ?_
    refine j_pI C f_X6_78 n_16 dX6_copyFrom_287 ?_
    obtain rfl := Option.some.inj hm
    exact j_vret C O dX6_copyFrom_290
  · refine j_aload_n C 0 dX6_copyFrom_80 rfl rfl ?_
    refine j_gS C f_X6_34 n_16 q_16_4 dX6_copyFrom_81 ?_
    refine j_iload_n C 2 dX6_copyFrom_84 rfl rfl ?_
    refine j_aload_n C 1 dX6_copyFrom_85 rfl rfl ?_
    refine j_gS C f_X6_34 n_1 q_1_4 dX6_copyFrom_86 ?_
    refine j_iload_n C 2 dX6_copyFrom_89 rfl rfl ?_
    refine j_aald C n_6 (by decide) (by decide) (p := 5) rfl hm dX6_copyFrom_90 (fun hm => ?_)
    rw [rf_nil (show RS.getD 6 [] = [] from rfl)]
    refine j_aast C (o := (hR h 6 (ix v2))) n_21 rfl hm dX6_copyFrom_91 (fun hm => ?_)
    refine j_iinc C 2 [(2, .int (v2 + (1 : Int32))), (0, .ref (G.1 + 16)), (1, .ref (G.1 + 1))] dX6_copyFrom_92 rfl (add_lit (by decide)) (by decide) rfl ?_
    refine j_goto C 74 dX6_copyFrom_95 (by decide) ?_
    obtain rfl := Option.some.inj hm
    refine j_sub (L' := [(0, .ref (G.1 + 16)), (1, .ref (G.1 + 1)), (2, .int (v2 + (1 : Int32)))]) [1, 2, 0] rfl ?_
    exact O
theorem k_State_copyFrom_16_1_74 {G : jG} {X : jX} (C : jC G X cX6_copyFrom 3 RX6 1 70) {v2 : Int32} {h : Hp} {out : Hp} (O : (O_State_copyFrom_16_1 G X) out) (hm : lp (fun q => s_State_copyFrom_16_1_74 q.1 q.2) (v2, h) = some out) : J G X 74 [(0, .ref (G.1 + 16)), (1, .ref (G.1 + 1)), (2, .int v2)] [] h :=
  lp_ok (P := P_State_copyFrom_16_1_74 G X) (O := (O_State_copyFrom_16_1 G X)) (fun q r hm O => w_State_copyFrom_16_1_74 C O hm) hm O
theorem w_State_copyFrom_16_1 {G : jG} {X : jX} (C : jC G X cX6_copyFrom 3 RX6 1 70) {h : Hp} {out : Hp} (O : (O_State_copyFrom_16_1 G X) out) (hm : s_State_copyFrom_16_1 h = some out) : J G X 0 [(0, .ref (G.1 + 16)), (1, .ref (G.1 + 1))] [] h := by
  unfold s_State_copyFrom_16_1 at hm
  refine j_aload_n C 1 dX6_copyFrom_0 rfl rfl ?_
  refine j_gS C f_X6_9 n_1 q_1_0 dX6_copyFrom_1 ?_
  refine j_iconst C 0 dX6_copyFrom_4 (by decide) ?_
  refine j_aload_n C 0 dX6_copyFrom_5 rfl rfl ?_
  refine j_gS C f_X6_9 n_16 q_16_0 dX6_copyFrom_6 ?_
  refine j_iconst C 0 dX6_copyFrom_9 (by decide) ?_
  refine j_aload_n C 0 dX6_copyFrom_10 rfl rfl ?_
  refine j_gS C f_X6_9 n_16 q_16_0 dX6_copyFrom_11 ?_
  refine j_alen C 6 n_17 (by decide) dX6_copyFrom_14 ?_
  refine j_copy C wd_1306 wd_844 wd_843 wd_128 (Nat.le_of_ble_eq_true rfl) (Nat.le_of_ble_eq_true rfl) hm dX6_copyFrom_15 (fun hm => ?_)
  refine j_aload_n C 1 dX6_copyFrom_18 rfl rfl ?_
  refine j_nmH hm (fun h1 hm => ?_)
  refine j_gS C f_X6_15 n_1 q_1_1 dX6_copyFrom_19 ?_
  refine j_iconst C 0 dX6_copyFrom_22 (by decide) ?_
  refine j_aload_n C 0 dX6_copyFrom_23 rfl rfl ?_
  refine j_gS C f_X6_15 n_16 q_16_1 dX6_copyFrom_24 ?_
  refine j_iconst C 0 dX6_copyFrom_27 (by decide) ?_
  refine j_aload_n C 0 dX6_copyFrom_28 rfl rfl ?_
  refine j_gS C f_X6_15 n_16 q_16_1 dX6_copyFrom_29 ?_
  refine j_alen C 24 n_18 (by decide) dX6_copyFrom_32 ?_
  refine j_copy C wd_1306 wd_844 wd_843 wd_128 (Nat.le_of_ble_eq_true rfl) (Nat.le_of_ble_eq_true rfl) hm dX6_copyFrom_33 (fun hm => ?_)
  refine j_aload_n C 1 dX6_copyFrom_36 rfl rfl ?_
  refine j_nmH hm (fun h2 hm => ?_)
  refine j_gS C f_X6_26 n_1 q_1_2 dX6_copyFrom_37 ?_
  refine j_iconst C 0 dX6_copyFrom_40 (by decide) ?_
  refine j_aload_n C 0 dX6_copyFrom_41 rfl rfl ?_
  refine j_gS C f_X6_26 n_16 q_16_2 dX6_copyFrom_42 ?_
  refine j_iconst C 0 dX6_copyFrom_45 (by decide) ?_
  refine j_aload_n C 0 dX6_copyFrom_46 rfl rfl ?_
  refine j_gS C f_X6_26 n_16 q_16_2 dX6_copyFrom_47 ?_
  refine j_alen C 11 n_19 (by decide) dX6_copyFrom_50 ?_
  refine j_copy C wd_1306 wd_844 wd_843 wd_128 (Nat.le_of_ble_eq_true rfl) (Nat.le_of_ble_eq_true rfl) hm dX6_copyFrom_51 (fun hm => ?_)
  refine j_aload_n C 1 dX6_copyFrom_54 rfl rfl ?_
  refine j_nmH hm (fun h3 hm => ?_)
  refine j_gS C f_X6_29 n_1 q_1_3 dX6_copyFrom_55 ?_
  refine j_iconst C 0 dX6_copyFrom_58 (by decide) ?_
  refine j_aload_n C 0 dX6_copyFrom_59 rfl rfl ?_
  refine j_gS C f_X6_29 n_16 q_16_3 dX6_copyFrom_60 ?_
  refine j_iconst C 0 dX6_copyFrom_63 (by decide) ?_
  refine j_aload_n C 0 dX6_copyFrom_64 rfl rfl ?_
  refine j_gS C f_X6_29 n_16 q_16_3 dX6_copyFrom_65 ?_
  refine j_alen C 50 n_20 (by decide) dX6_copyFrom_68 ?_
  refine j_copy C wd_1306 wd_844 wd_843 wd_128 (Nat.le_of_ble_eq_true rfl) (Nat.le_of_ble_eq_true rfl) hm dX6_copyFrom_69 (fun hm => ?_)
  refine j_iconst C 0 dX6_copyFrom_72 (by decide) ?_
  refine j_istore_n C [(2, .int ((0 : Int32))), (0, .ref (G.1 + 16)), (1, .ref (G.1 + 1))] dX6_copyFrom_73 rfl (by decide) rfl ?_
  refine j_sub (L' := [(0, .ref (G.1 + 16)), (1, .ref (G.1 + 1)), (2, .int ((0 : Int32)))]) [1, 2, 0] rfl ?_
  exact k_State_copyFrom_16_1_74 C O hm
theorem c_State_copyFrom_16_1 {G : jG} {l : Launch} {h : Hp} {out : Hp} (hm : s_State_copyFrom_16_1 h = some out) : mt G l yX6_copyFrom cX6_copyFrom 3 (none) 1 70 [.ref (G.1 + 16), .ref (G.1 + 1)] h none out :=
  mt_of (by decide) (Nat.le_of_ble_eq_true rfl) _ rfl (fun X I C O => w_State_copyFrom_16_1 C O hm)
noncomputable def s_State_copyFrom_30_1_74 (v2 : Int32) (h : Hp) : Option ((Int32 × Hp) ⊕ Hp) :=
  if ((6 : Int32)) ≤ v2 then
    cy h 7 ((0 : Int32)) 36 ((0 : Int32)) ((6 : Int32)) <| lt (cpI h 7 ((0 : Int32)) 36 ((0 : Int32)) ((6 : Int32))) fun h1 => cy h1 8 ((0 : Int32)) 37 ((0 : Int32)) ((6 : Int32)) <| lt (cpI h1 8 ((0 : Int32)) 37 ((0 : Int32)) ((6 : Int32))) fun h2 => cy h2 9 ((0 : Int32)) 38 ((0 : Int32)) ((40 : Int32)) <| lt (cpI h2 9 ((0 : Int32)) 38 ((0 : Int32)) ((40 : Int32))) fun h3 => cy h3 10 ((0 : Int32)) 39 ((0 : Int32)) ((6 : Int32)) <| lt (cpI h3 10 ((0 : Int32)) 39 ((0 : Int32)) ((6 : Int32))) fun h4 => cy h4 11 ((0 : Int32)) 40 ((0 : Int32)) ((6 : Int32)) <| lt (cpI h4 11 ((0 : Int32)) 40 ((0 : Int32)) ((6 : Int32))) fun h5 => cy h5 12 ((0 : Int32)) 41 ((0 : Int32)) ((6 : Int32)) <| lt (cpI h5 12 ((0 : Int32)) 41 ((0 : Int32)) ((6 : Int32))) fun h6 => cy h6 13 ((0 : Int32)) 42 ((0 : Int32)) ((12 : Int32)) <| lt (cpI h6 13 ((0 : Int32)) 42 ((0 : Int32)) ((12 : Int32))) fun h7 => cy h7 14 ((0 : Int32)) 43 ((0 : Int32)) ((12 : Int32)) <| lt (cpI h7 14 ((0 : Int32)) 43 ((0 : Int32)) ((12 : Int32))) fun h8 => lt (sI h8 30 13 (hI h8 1 13)) fun h9 => lt (sI h9 30 14 (hI h9 1 14)) fun h10 => lt (sI h10 30 15 (hI h10 1 15)) fun h11 => lt (sI h11 30 16 (hI h11 1 16)) fun h12 => lt (sI h12 30 17 (hI h12 1 17)) fun h13 => some (.inr (sI h13 30 18 (hI h13 1 18)))
  else
    ib v2 6 <| ib v2 6 <| oq h (hR h 6 (ix v2)) 101 <| some (.inl ((v2 + (1 : Int32)), (sR h 35 (ix v2) (hR h 6 (ix v2)))))
noncomputable def s_State_copyFrom_30_1 (h : Hp) : Option Hp :=
  cy h 2 ((0 : Int32)) 31 ((0 : Int32)) ((6 : Int32)) <| lt (cpI h 2 ((0 : Int32)) 31 ((0 : Int32)) ((6 : Int32))) fun h1 => cy h1 3 ((0 : Int32)) 32 ((0 : Int32)) ((24 : Int32)) <| lt (cpI h1 3 ((0 : Int32)) 32 ((0 : Int32)) ((24 : Int32))) fun h2 => cy h2 4 ((0 : Int32)) 33 ((0 : Int32)) ((11 : Int32)) <| lt (cpI h2 4 ((0 : Int32)) 33 ((0 : Int32)) ((11 : Int32))) fun h3 => cy h3 5 ((0 : Int32)) 34 ((0 : Int32)) ((50 : Int32)) <| lp (fun q => s_State_copyFrom_30_1_74 q.1 q.2) (((0 : Int32)), (cpI h3 5 ((0 : Int32)) 34 ((0 : Int32)) ((50 : Int32))))
def O_State_copyFrom_30_1 (G : jG) (X : jX) (out : Hp) : Prop := jO G X (none) none out
def P_State_copyFrom_30_1_74 (G : jG) (X : jX) (q : Int32 × Hp) : Prop := J G X 74 [(0, .ref (G.1 + 30)), (1, .ref (G.1 + 1)), (2, .int q.1)] [] q.2
def O_State_copyFrom_30_1_74 (G : jG) (X : jX) (t : ((Int32 × Hp) ⊕ Hp)) : Prop := Sum.elim (P_State_copyFrom_30_1_74 G X) (O_State_copyFrom_30_1 G X) t
theorem w_State_copyFrom_30_1_74 {G : jG} {X : jX} (C : jC G X cX6_copyFrom 3 RX6 1 70) {v2 : Int32} {h : Hp} {out : ((Int32 × Hp) ⊕ Hp)} (O : (O_State_copyFrom_30_1_74 G X) out) (hm : s_State_copyFrom_30_1_74 v2 h = some out) : J G X 74 [(0, .ref (G.1 + 30)), (1, .ref (G.1 + 1)), (2, .int v2)] [] h := by
  unfold s_State_copyFrom_30_1_74 at hm
  refine j_iload_n C 2 dX6_copyFrom_74 rfl rfl ?_
  refine j_bipush C 6 dX6_copyFrom_75 (by decide) ?_
  refine j_if_icmpge C 98 dX6_copyFrom_77 (by decide) hm (fun hm => ?_) (fun hm => ?_)
  · refine j_aload_n C 1 dX6_copyFrom_98 rfl rfl ?_
    refine j_gS C f_X6_38 n_1 q_1_5 dX6_copyFrom_99 ?_
    refine j_iconst C 0 dX6_copyFrom_102 (by decide) ?_
    refine j_aload_n C 0 dX6_copyFrom_103 rfl rfl ?_
    refine j_gS C f_X6_38 n_30 q_30_5 dX6_copyFrom_104 ?_
    refine j_iconst C 0 dX6_copyFrom_107 (by decide) ?_
    refine j_aload_n C 0 dX6_copyFrom_108 rfl rfl ?_
    refine j_gS C f_X6_38 n_30 q_30_5 dX6_copyFrom_109 ?_
    refine j_alen C 6 n_36 (by decide) dX6_copyFrom_112 ?_
    refine j_copy C wd_1306 wd_844 wd_843 wd_128 (Nat.le_of_ble_eq_true rfl) (Nat.le_of_ble_eq_true rfl) hm dX6_copyFrom_113 (fun hm => ?_)
    refine j_aload_n C 1 dX6_copyFrom_116 rfl rfl ?_
    refine j_nmH hm (fun h1 hm => ?_)
    refine j_gS C f_X6_41 n_1 q_1_6 dX6_copyFrom_117 ?_
    refine j_iconst C 0 dX6_copyFrom_120 (by decide) ?_
    refine j_aload_n C 0 dX6_copyFrom_121 rfl rfl ?_
    refine j_gS C f_X6_41 n_30 q_30_6 dX6_copyFrom_122 ?_
    refine j_iconst C 0 dX6_copyFrom_125 (by decide) ?_
    refine j_aload_n C 0 dX6_copyFrom_126 rfl rfl ?_
    refine j_gS C f_X6_41 n_30 q_30_6 dX6_copyFrom_127 ?_
    refine j_alen C 6 n_37 (by decide) dX6_copyFrom_130 ?_
    refine j_copy C wd_1306 wd_844 wd_843 wd_128 (Nat.le_of_ble_eq_true rfl) (Nat.le_of_ble_eq_true rfl) hm dX6_copyFrom_131 (fun hm => ?_)
    refine j_aload_n C 1 dX6_copyFrom_134 rfl rfl ?_
    refine j_nmH hm (fun h2 hm => ?_)
    refine j_gS C f_X6_44 n_1 q_1_7 dX6_copyFrom_135 ?_
    refine j_iconst C 0 dX6_copyFrom_138 (by decide) ?_
    refine j_aload_n C 0 dX6_copyFrom_139 rfl rfl ?_
    refine j_gS C f_X6_44 n_30 q_30_7 dX6_copyFrom_140 ?_
    refine j_iconst C 0 dX6_copyFrom_143 (by decide) ?_
    refine j_aload_n C 0 dX6_copyFrom_144 rfl rfl ?_
    refine j_gS C f_X6_44 n_30 q_30_7 dX6_copyFrom_145 ?_
    refine j_alen C 40 n_38 (by decide) dX6_copyFrom_148 ?_
    refine j_copy C wd_1306 wd_844 wd_843 wd_128 (Nat.le_of_ble_eq_true rfl) (Nat.le_of_ble_eq_true rfl) hm dX6_copyFrom_149 (fun hm => ?_)
    refine j_aload_n C 1 dX6_copyFrom_152 rfl rfl ?_
    refine j_nmH hm (fun h3 hm => ?_)
    refine j_gS C f_X6_47 n_1 q_1_8 dX6_copyFrom_153 ?_
    refine j_iconst C 0 dX6_copyFrom_156 (by decide) ?_
    refine j_aload_n C 0 dX6_copyFrom_157 rfl rfl ?_
    refine j_gS C f_X6_47 n_30 q_30_8 dX6_copyFrom_158 ?_
    refine j_iconst C 0 dX6_copyFrom_161 (by decide) ?_
    refine j_aload_n C 0 dX6_copyFrom_162 rfl rfl ?_
    refine j_gS C f_X6_47 n_30 q_30_8 dX6_copyFrom_163 ?_
    refine j_alen C 6 n_39 (by decide) dX6_copyFrom_166 ?_
    refine j_copy C wd_1306 wd_844 wd_843 wd_128 (Nat.le_of_ble_eq_true rfl) (Nat.le_of_ble_eq_true rfl) hm dX6_copyFrom_167 (fun hm => ?_)
    refine j_aload_n C 1 dX6_copyFrom_170 rfl rfl ?_
    refine j_nmH hm (fun h4 hm => ?_)
    refine j_gS C f_X6_50 n_1 q_1_9 dX6_copyFrom_171 ?_
    refine j_iconst C 0 dX6_copyFrom_174 (by decide) ?_
    refine j_aload_n C 0 dX6_copyFrom_175 rfl rfl ?_
    refine j_gS C f_X6_50 n_30 q_30_9 dX6_copyFrom_176 ?_
    refine j_iconst C 0 dX6_copyFrom_179 (by decide) ?_
    refine j_aload_n C 0 dX6_copyFrom_180 rfl rfl ?_
    refine j_gS C f_X6_50 n_30 q_30_9 dX6_copyFrom_181 ?_
    refine j_alen C 6 n_40 (by decide) dX6_copyFrom_184 ?_
    refine j_copy C wd_1306 wd_844 wd_843 wd_128 (Nat.le_of_ble_eq_true rfl) (Nat.le_of_ble_eq_true rfl) hm dX6_copyFrom_185 (fun hm => ?_)
    refine j_aload_n C 1 dX6_copyFrom_188 rfl rfl ?_
    refine j_nmH hm (fun h5 hm => ?_)
    refine j_gS C f_X6_53 n_1 q_1_10 dX6_copyFrom_189 ?_
    refine j_iconst C 0 dX6_copyFrom_192 (by decide) ?_
    refine j_aload_n C 0 dX6_copyFrom_193 rfl rfl ?_
    refine j_gS C f_X6_53 n_30 q_30_10 dX6_copyFrom_194 ?_
    refine j_iconst C 0 dX6_copyFrom_197 (by decide) ?_
    refine j_aload_n C 0 dX6_copyFrom_198 rfl rfl ?_
    refine j_gS C f_X6_53 n_30 q_30_10 dX6_copyFrom_199 ?_
    refine j_alen C 6 n_41 (by decide) dX6_copyFrom_202 ?_
    refine j_copy C wd_1306 wd_844 wd_843 wd_128 (Nat.le_of_ble_eq_true rfl) (Nat.le_of_ble_eq_true rfl) hm dX6_copyFrom_203 (fun hm => ?_)
    refine j_aload_n C 1 dX6_copyFrom_206 rfl rfl ?_
    refine j_nmH hm (fun h6 hm => ?_)
    refine j_gS C f_X6_56 n_1 q_1_11 dX6_copyFrom_207 ?_
    refine j_iconst C 0 dX6_copyFrom_210 (by decide) ?_
    refine j_aload_n C 0 dX6_copyFrom_211 rfl rfl ?_
    refine j_gS C f_X6_56 n_30 q_30_11 dX6_copyFrom_212 ?_
    refine j_iconst C 0 dX6_copyFrom_215 (by decide) ?_
    refine j_aload_n C 0 dX6_copyFrom_216 rfl rfl ?_
    refine j_gS C f_X6_56 n_30 q_30_11 dX6_copyFrom_217 ?_
    refine j_alen C 12 n_42 (by decide) dX6_copyFrom_220 ?_
    refine j_copy C wd_1306 wd_844 wd_843 wd_128 (Nat.le_of_ble_eq_true rfl) (Nat.le_of_ble_eq_true rfl) hm dX6_copyFrom_221 (fun hm => ?_)
    refine j_aload_n C 1 dX6_copyFrom_224 rfl rfl ?_
    refine j_nmH hm (fun h7 hm => ?_)
    refine j_gS C f_X6_59 n_1 q_1_12 dX6_copyFrom_225 ?_
    refine j_iconst C 0 dX6_copyFrom_228 (by decide) ?_
    refine j_aload_n C 0 dX6_copyFrom_229 rfl rfl ?_
    refine j_gS C f_X6_59 n_30 q_30_12 dX6_copyFrom_230 ?_
    refine j_iconst C 0 dX6_copyFrom_233 (by decide) ?_
    refine j_aload_n C 0 dX6_copyFrom_234 rfl rfl ?_
    refine j_gS C f_X6_59 n_30 q_30_12 dX6_copyFrom_235 ?_
    refine j_alen C 12 n_43 (by decide) dX6_copyFrom_238 ?_
    refine j_copy C wd_1306 wd_844 wd_843 wd_128 (Nat.le_of_ble_eq_true rfl) (Nat.le_of_ble_eq_true rfl) hm dX6_copyFrom_239 (fun hm => ?_)
    refine j_aload_n C 0 dX6_copyFrom_242 rfl rfl ?_
    refine j_aload_n C 1 dX6_copyFrom_243 rfl rfl ?_
    refine j_nmH hm (fun h8 hm => ?_)
    refine j_gI C f_X6_62 n_1 dX6_copyFrom_244 ?_
    refine j_pI C f_X6_62 n_30 dX6_copyFrom_247 ?_
    refine j_aload_n C 0 dX6_copyFrom_250 rfl rfl ?_
    refine j_aload_n C 1 dX6_copyFrom_251 rfl rfl ?_
    refine j_nmH hm (fun h9 hm => ?_)
    refine j_gI C f_X6_66 n_1 dX6_copyFrom_252 ?_
    refine j_pI C f_X6_66 n_30 dX6_copyFrom_255 ?_
    refine j_aload_n C 0 dX6_copyFrom_258 rfl rfl ?_
    refine j_aload_n C 1 dX6_copyFrom_259 rfl rfl ?_
    refine j_nmH hm (fun h10 hm => ?_)
    refine j_gI C f_X6_69 n_1 dX6_copyFrom_260 ?_
    refine j_pI C f_X6_69 n_30 dX6_copyFrom_263 ?_
    refine j_aload_n C 0 dX6_copyFrom_266 rfl rfl ?_
    refine j_aload_n C 1 dX6_copyFrom_267 rfl rfl ?_
    refine j_nmH hm (fun h11 hm => ?_)
    refine j_gI C f_X6_72 n_1 dX6_copyFrom_268 ?_
    refine j_pI C f_X6_72 n_30 dX6_copyFrom_271 ?_
    refine j_aload_n C 0 dX6_copyFrom_274 rfl rfl ?_
    refine j_aload_n C 1 dX6_copyFrom_275 rfl rfl ?_
    refine j_nmH hm (fun h12 hm => ?_)
    refine j_gI C f_X6_75 n_1 dX6_copyFrom_276 ?_
    refine j_pI C f_X6_75 n_30 dX6_copyFrom_279 ?_
    refine j_aload_n C 0 dX6_copyFrom_282 rfl rfl ?_
    refine j_aload_n C 1 dX6_copyFrom_283 rfl rfl ?_
    refine j_nmH hm (fun h13 hm => ?_)
    refine j_gI C f_X6_78 n_1 dX6_copyFrom_284 ?_
    refine j_pI C f_X6_78 n_30 dX6_copyFrom_287 ?_
    obtain rfl := Option.some.inj hm
    exact j_vret C O dX6_copyFrom_290
  · refine j_aload_n C 0 dX6_copyFrom_80 rfl rfl ?_
    refine j_gS C f_X6_34 n_30 q_30_4 dX6_copyFrom_81 ?_
    refine j_iload_n C 2 dX6_copyFrom_84 rfl rfl ?_
    refine j_aload_n C 1 dX6_copyFrom_85 rfl rfl ?_
    refine j_gS C f_X6_34 n_1 q_1_4 dX6_copyFrom_86 ?_
    refine j_iload_n C 2 dX6_copyFrom_89 rfl rfl ?_
    refine j_aald C n_6 (by decide) (by decide) (p := 5) rfl hm dX6_copyFrom_90 (fun hm => ?_)
    rw [rf_nil (show RS.getD 6 [] = [] from rfl)]
    refine j_aast C (o := (hR h 6 (ix v2))) n_35 rfl hm dX6_copyFrom_91 (fun hm => ?_)
    refine j_iinc C 2 [(2, .int (v2 + (1 : Int32))), (0, .ref (G.1 + 30)), (1, .ref (G.1 + 1))] dX6_copyFrom_92 rfl (add_lit (by decide)) (by decide) rfl ?_
    refine j_goto C 74 dX6_copyFrom_95 (by decide) ?_
    obtain rfl := Option.some.inj hm
    refine j_sub (L' := [(0, .ref (G.1 + 30)), (1, .ref (G.1 + 1)), (2, .int (v2 + (1 : Int32)))]) [1, 2, 0] rfl ?_
    exact O
theorem k_State_copyFrom_30_1_74 {G : jG} {X : jX} (C : jC G X cX6_copyFrom 3 RX6 1 70) {v2 : Int32} {h : Hp} {out : Hp} (O : (O_State_copyFrom_30_1 G X) out) (hm : lp (fun q => s_State_copyFrom_30_1_74 q.1 q.2) (v2, h) = some out) : J G X 74 [(0, .ref (G.1 + 30)), (1, .ref (G.1 + 1)), (2, .int v2)] [] h :=
  lp_ok (P := P_State_copyFrom_30_1_74 G X) (O := (O_State_copyFrom_30_1 G X)) (fun q r hm O => w_State_copyFrom_30_1_74 C O hm) hm O
theorem w_State_copyFrom_30_1 {G : jG} {X : jX} (C : jC G X cX6_copyFrom 3 RX6 1 70) {h : Hp} {out : Hp} (O : (O_State_copyFrom_30_1 G X) out) (hm : s_State_copyFrom_30_1 h = some out) : J G X 0 [(0, .ref (G.1 + 30)), (1, .ref (G.1 + 1))] [] h := by
  unfold s_State_copyFrom_30_1 at hm
  refine j_aload_n C 1 dX6_copyFrom_0 rfl rfl ?_
  refine j_gS C f_X6_9 n_1 q_1_0 dX6_copyFrom_1 ?_
  refine j_iconst C 0 dX6_copyFrom_4 (by decide) ?_
  refine j_aload_n C 0 dX6_copyFrom_5 rfl rfl ?_
  refine j_gS C f_X6_9 n_30 q_30_0 dX6_copyFrom_6 ?_
  refine j_iconst C 0 dX6_copyFrom_9 (by decide) ?_
  refine j_aload_n C 0 dX6_copyFrom_10 rfl rfl ?_
  refine j_gS C f_X6_9 n_30 q_30_0 dX6_copyFrom_11 ?_
  refine j_alen C 6 n_31 (by decide) dX6_copyFrom_14 ?_
  refine j_copy C wd_1306 wd_844 wd_843 wd_128 (Nat.le_of_ble_eq_true rfl) (Nat.le_of_ble_eq_true rfl) hm dX6_copyFrom_15 (fun hm => ?_)
  refine j_aload_n C 1 dX6_copyFrom_18 rfl rfl ?_
  refine j_nmH hm (fun h1 hm => ?_)
  refine j_gS C f_X6_15 n_1 q_1_1 dX6_copyFrom_19 ?_
  refine j_iconst C 0 dX6_copyFrom_22 (by decide) ?_
  refine j_aload_n C 0 dX6_copyFrom_23 rfl rfl ?_
  refine j_gS C f_X6_15 n_30 q_30_1 dX6_copyFrom_24 ?_
  refine j_iconst C 0 dX6_copyFrom_27 (by decide) ?_
  refine j_aload_n C 0 dX6_copyFrom_28 rfl rfl ?_
  refine j_gS C f_X6_15 n_30 q_30_1 dX6_copyFrom_29 ?_
  refine j_alen C 24 n_32 (by decide) dX6_copyFrom_32 ?_
  refine j_copy C wd_1306 wd_844 wd_843 wd_128 (Nat.le_of_ble_eq_true rfl) (Nat.le_of_ble_eq_true rfl) hm dX6_copyFrom_33 (fun hm => ?_)
  refine j_aload_n C 1 dX6_copyFrom_36 rfl rfl ?_
  refine j_nmH hm (fun h2 hm => ?_)
  refine j_gS C f_X6_26 n_1 q_1_2 dX6_copyFrom_37 ?_
  refine j_iconst C 0 dX6_copyFrom_40 (by decide) ?_
  refine j_aload_n C 0 dX6_copyFrom_41 rfl rfl ?_
  refine j_gS C f_X6_26 n_30 q_30_2 dX6_copyFrom_42 ?_
  refine j_iconst C 0 dX6_copyFrom_45 (by decide) ?_
  refine j_aload_n C 0 dX6_copyFrom_46 rfl rfl ?_
  refine j_gS C f_X6_26 n_30 q_30_2 dX6_copyFrom_47 ?_
  refine j_alen C 11 n_33 (by decide) dX6_copyFrom_50 ?_
  refine j_copy C wd_1306 wd_844 wd_843 wd_128 (Nat.le_of_ble_eq_true rfl) (Nat.le_of_ble_eq_true rfl) hm dX6_copyFrom_51 (fun hm => ?_)
  refine j_aload_n C 1 dX6_copyFrom_54 rfl rfl ?_
  refine j_nmH hm (fun h3 hm => ?_)
  refine j_gS C f_X6_29 n_1 q_1_3 dX6_copyFrom_55 ?_
  refine j_iconst C 0 dX6_copyFrom_58 (by decide) ?_
  refine j_aload_n C 0 dX6_copyFrom_59 rfl rfl ?_
  refine j_gS C f_X6_29 n_30 q_30_3 dX6_copyFrom_60 ?_
  refine j_iconst C 0 dX6_copyFrom_63 (by decide) ?_
  refine j_aload_n C 0 dX6_copyFrom_64 rfl rfl ?_
  refine j_gS C f_X6_29 n_30 q_30_3 dX6_copyFrom_65 ?_
  refine j_alen C 50 n_34 (by decide) dX6_copyFrom_68 ?_
  refine j_copy C wd_1306 wd_844 wd_843 wd_128 (Nat.le_of_ble_eq_true rfl) (Nat.le_of_ble_eq_true rfl) hm dX6_copyFrom_69 (fun hm => ?_)
  refine j_iconst C 0 dX6_copyFrom_72 (by decide) ?_
  refine j_istore_n C [(2, .int ((0 : Int32))), (0, .ref (G.1 + 30)), (1, .ref (G.1 + 1))] dX6_copyFrom_73 rfl (by decide) rfl ?_
  refine j_sub (L' := [(0, .ref (G.1 + 30)), (1, .ref (G.1 + 1)), (2, .int ((0 : Int32)))]) [1, 2, 0] rfl ?_
  exact k_State_copyFrom_30_1_74 C O hm
theorem c_State_copyFrom_30_1 {G : jG} {l : Launch} {h : Hp} {out : Hp} (hm : s_State_copyFrom_30_1 h = some out) : mt G l yX6_copyFrom cX6_copyFrom 3 (none) 1 70 [.ref (G.1 + 30), .ref (G.1 + 1)] h none out :=
  mt_of (by decide) (Nat.le_of_ble_eq_true rfl) _ rfl (fun X I C O => w_State_copyFrom_30_1 C O hm)
noncomputable def s_Race_image (v1 : Int32) (h : Hp) : Option (Int32 × Hp) :=
  (s_Race_isWithin v1 ((0 : Int32)) ((1 : Int32)) h).bind fun u1 => if u1 = 0 then
    (s_Race_refuse ((-1 : Int32)) h).bind fun u7 => some (u7.1, u7.2)
  else
    ib v1 2 <| if (ix v1) = 0 then
      (s_State_copyFrom_16_1 h).bind fun u3 => ib v1 2 <| (s_Race_grant ((0 : Int32)) (sI u3 44 (ix v1) (z_nz ((1 : Int32))))).bind fun u4 => some (u4.1, u4.2)
    else
      (s_State_copyFrom_30_1 h).bind fun u5 => ib v1 2 <| (s_Race_grant ((0 : Int32)) (sI u5 44 (ix v1) (z_nz ((1 : Int32))))).bind fun u6 => some (u6.1, u6.2)
def O_Race_image (G : jG) (X : jX) (out : (Int32 × Hp)) : Prop := jO G X (some .int) (some (.int out.1)) out.2
theorem w_Race_image {G : jG} {X : jX} (C : jC G X cX11_image 2 RX11 2 92) {v1 : Int32} {h : Hp} {out : (Int32 × Hp)} (O : (O_Race_image G X) out) (hm : s_Race_image v1 h = some out) : J G X 0 [(0, .ref (G.1 + 0)), (1, .int v1)] [] h := by
  unfold s_Race_image at hm
  refine j_iload_n C 1 dX11_image_0 rfl rfl ?_
  refine j_iconst C 0 dX11_image_1 (by decide) ?_
  refine j_iconst C 1 dX11_image_2 (by decide) ?_
  refine j_cS C l_X11_102 [.int v1, .int ((0 : Int32)), .int ((1 : Int32))] [] (fun u1 => some (.int u1)) (fun _ => h) (fun u1 => [.int u1]) hm (fun l u hu => c_Race_isWithin hu) rfl (Nat.le_of_ble_eq_true rfl) rfl (Nat.le_of_ble_eq_true rfl) (Nat.le_of_ble_eq_true rfl) (fun _ => rfl) dX11_image_3 (fun u1 hm => ?_)
  refine j_ifne C 15 dX11_image_6 (by decide) hm (fun hm => ?_) (fun hm => ?_)
  · refine j_aload_n C 0 dX11_image_9 rfl rfl ?_
    refine j_iconst C (-1 : Int32) dX11_image_10 (by decide) ?_
    refine j_cV C l_X11_112 [.int ((-1 : Int32))] [] (fun u7 => some (.int u7.1)) (fun u7 => u7.2) (fun u7 => [.int u7.1]) n_0 hm (fun l u hu => c_Race_refuse hu) rfl (Nat.le_of_ble_eq_true rfl) rfl (Nat.le_of_ble_eq_true rfl) (Nat.le_of_ble_eq_true rfl) (fun _ => rfl) dX11_image_11 (fun u7 hm => ?_)
    obtain rfl := Option.some.inj hm
    exact j_iret C O dX11_image_14
  · refine j_aload_n C 0 dX11_image_15 rfl rfl ?_
    refine j_gS C f_X11_16 n_0 q_0_1 dX11_image_16 ?_
    refine j_iload_n C 1 dX11_image_19 rfl rfl ?_
    obtain ⟨hm_i, hm⟩ := ib_inv hm
    rcases if_inv hm with ⟨c2, hm⟩ | ⟨c2, hm⟩
    · refine j_img16 C hm_i c2 dX11_image_20 ?_
      refine j_aload_n C 0 dX11_image_21 rfl rfl ?_
      refine j_gS C f_X11_10 n_0 q_0_0 dX11_image_22 ?_
      refine j_cV C l_X11_369 [.ref (G.1 + 1)] [] (fun _ => none) (fun u3 => u3) (fun u3 => []) n_16 hm (fun l u hu => c_State_copyFrom_16_1 hu) rfl (Nat.le_of_ble_eq_true rfl) rfl (Nat.le_of_ble_eq_true rfl) (Nat.le_of_ble_eq_true rfl) (fun _ => rfl) dX11_image_25 (fun u3 hm => ?_)
      refine j_aload_n C 0 dX11_image_28 rfl rfl ?_
      refine j_gS C f_X11_20 n_0 q_0_2 dX11_image_29 ?_
      refine j_iload_n C 1 dX11_image_32 rfl rfl ?_
      refine j_iconst C 1 dX11_image_33 (by decide) ?_
      refine j_zast C n_44 hm dX11_image_34 (fun hm => ?_)
      refine j_aload_n C 0 dX11_image_35 rfl rfl ?_
      refine j_iconst C 0 dX11_image_36 (by decide) ?_
      refine j_cV C l_X11_122 [.int ((0 : Int32))] [] (fun u4 => some (.int u4.1)) (fun u4 => u4.2) (fun u4 => [.int u4.1]) n_0 hm (fun l u hu => c_Race_grant hu) rfl (Nat.le_of_ble_eq_true rfl) rfl (Nat.le_of_ble_eq_true rfl) (Nat.le_of_ble_eq_true rfl) (fun _ => rfl) dX11_image_37 (fun u4 hm => ?_)
      obtain rfl := Option.some.inj hm
      exact j_iret C O dX11_image_40
    · refine j_img30 C hm_i c2 dX11_image_20 ?_
      refine j_aload_n C 0 dX11_image_21 rfl rfl ?_
      refine j_gS C f_X11_10 n_0 q_0_0 dX11_image_22 ?_
      refine j_cV C l_X11_369 [.ref (G.1 + 1)] [] (fun _ => none) (fun u5 => u5) (fun u5 => []) n_30 hm (fun l u hu => c_State_copyFrom_30_1 hu) rfl (Nat.le_of_ble_eq_true rfl) rfl (Nat.le_of_ble_eq_true rfl) (Nat.le_of_ble_eq_true rfl) (fun _ => rfl) dX11_image_25 (fun u5 hm => ?_)
      refine j_aload_n C 0 dX11_image_28 rfl rfl ?_
      refine j_gS C f_X11_20 n_0 q_0_2 dX11_image_29 ?_
      refine j_iload_n C 1 dX11_image_32 rfl rfl ?_
      refine j_iconst C 1 dX11_image_33 (by decide) ?_
      refine j_zast C n_44 hm dX11_image_34 (fun hm => ?_)
      refine j_aload_n C 0 dX11_image_35 rfl rfl ?_
      refine j_iconst C 0 dX11_image_36 (by decide) ?_
      refine j_cV C l_X11_122 [.int ((0 : Int32))] [] (fun u6 => some (.int u6.1)) (fun u6 => u6.2) (fun u6 => [.int u6.1]) n_0 hm (fun l u hu => c_Race_grant hu) rfl (Nat.le_of_ble_eq_true rfl) rfl (Nat.le_of_ble_eq_true rfl) (Nat.le_of_ble_eq_true rfl) (fun _ => rfl) dX11_image_37 (fun u6 hm => ?_)
      obtain rfl := Option.some.inj hm
      exact j_iret C O dX11_image_40
theorem c_Race_image {G : jG} {l : Launch} {v1 : Int32} {h : Hp} {out : (Int32 × Hp)} (hm : s_Race_image v1 h = some out) : mt G l yX11_image cX11_image 2 (some .int) 2 92 [.ref (G.1 + 0), .int v1] h (some (.int out.1)) out.2 :=
  mt_of (by decide) (Nat.le_of_ble_eq_true rfl) _ rfl (fun X I C O => w_Race_image C O hm)
noncomputable def s_Race_kind_16 (h : Hp) : Option (Int32 × Hp) :=
  (s_Race_refuse ((-1 : Int32)) h).bind fun u1 => some (u1.1, u1.2)
noncomputable def s_Race_kind (v1 : Int32) (v2 : Int32) (h : Hp) : Option (Int32 × Hp) :=
  (s_Race_isCell v1 h).bind fun u1 => if u1 = 0 then
    s_Race_kind_16 h
  else
    (s_Race_isWithin v2 ((0 : Int32)) ((5 : Int32)) h).bind fun u2 => if u2 = 0 then
      s_Race_kind_16 h
    else
      ib v1 50 <| ib v1 50 <| (s_Race_grant (hI h 5 (ix v1)) (sI h 5 (ix v1) v2)).bind fun u3 => some (u3.1, u3.2)
def O_Race_kind (G : jG) (X : jX) (out : (Int32 × Hp)) : Prop := jO G X (some .int) (some (.int out.1)) out.2
theorem w_Race_kind_16 {G : jG} {X : jX} (C : jC G X cX11_kind 4 RX11 3 112) {h : Hp} {out : (Int32 × Hp)} (O : (O_Race_kind G X) out) (hm : s_Race_kind_16 h = some out) : J G X 16 [(0, .ref (G.1 + 0))] [] h := by
  unfold s_Race_kind_16 at hm
  refine j_aload_n C 0 dX11_kind_16 rfl rfl ?_
  refine j_iconst C (-1 : Int32) dX11_kind_17 (by decide) ?_
  refine j_cV C l_X11_112 [.int ((-1 : Int32))] [] (fun u1 => some (.int u1.1)) (fun u1 => u1.2) (fun u1 => [.int u1.1]) n_0 hm (fun l u hu => c_Race_refuse hu) rfl (Nat.le_of_ble_eq_true rfl) rfl (Nat.le_of_ble_eq_true rfl) (Nat.le_of_ble_eq_true rfl) (fun _ => rfl) dX11_kind_18 (fun u1 hm => ?_)
  obtain rfl := Option.some.inj hm
  exact j_iret C O dX11_kind_21
theorem w_Race_kind {G : jG} {X : jX} (C : jC G X cX11_kind 4 RX11 3 112) {v1 : Int32} {v2 : Int32} {h : Hp} {out : (Int32 × Hp)} (O : (O_Race_kind G X) out) (hm : s_Race_kind v1 v2 h = some out) : J G X 0 [(0, .ref (G.1 + 0)), (1, .int v1), (2, .int v2)] [] h := by
  unfold s_Race_kind at hm
  refine j_iload_n C 1 dX11_kind_0 rfl rfl ?_
  refine j_cS C l_X11_200 [.int v1] [] (fun u1 => some (.int u1)) (fun _ => h) (fun u1 => [.int u1]) hm (fun l u hu => c_Race_isCell hu) rfl (Nat.le_of_ble_eq_true rfl) rfl (Nat.le_of_ble_eq_true rfl) (Nat.le_of_ble_eq_true rfl) (fun _ => rfl) dX11_kind_1 (fun u1 hm => ?_)
  refine j_ifeq C 16 dX11_kind_4 (by decide) hm (fun hm => ?_) (fun hm => ?_)
  · refine j_sub (L' := [(0, .ref (G.1 + 0))]) [0] rfl ?_
    exact w_Race_kind_16 C O hm
  · refine j_iload_n C 2 dX11_kind_7 rfl rfl ?_
    refine j_iconst C 0 dX11_kind_8 (by decide) ?_
    refine j_iconst C 5 dX11_kind_9 (by decide) ?_
    refine j_cS C l_X11_102 [.int v2, .int ((0 : Int32)), .int ((5 : Int32))] [] (fun u2 => some (.int u2)) (fun _ => h) (fun u2 => [.int u2]) hm (fun l u hu => c_Race_isWithin hu) rfl (Nat.le_of_ble_eq_true rfl) rfl (Nat.le_of_ble_eq_true rfl) (Nat.le_of_ble_eq_true rfl) (fun _ => rfl) dX11_kind_10 (fun u2 hm => ?_)
    refine j_ifne C 22 dX11_kind_13 (by decide) hm (fun hm => ?_) (fun hm => ?_)
    · refine j_sub (L' := [(0, .ref (G.1 + 0))]) [0] rfl ?_
      exact w_Race_kind_16 C O hm
    · refine j_aload_n C 0 dX11_kind_22 rfl rfl ?_
      refine j_gS C f_X11_10 n_0 q_0_0 dX11_kind_23 ?_
      refine j_gS C f_X11_164 n_1 q_1_3 dX11_kind_26 ?_
      refine j_iload_n C 1 dX11_kind_29 rfl rfl ?_
      refine j_iald C n_5 hm dX11_kind_30 (fun hm => ?_)
      refine j_istore_n C [(3, .int (hI h 5 (ix v1))), (0, .ref (G.1 + 0)), (1, .int v1), (2, .int v2)] dX11_kind_31 rfl (by decide) rfl ?_
      refine j_aload_n C 1 dX11_kind_32 rfl rfl ?_
      refine j_gS C f_X11_10 n_0 q_0_0 dX11_kind_33 ?_
      refine j_gS C f_X11_164 n_1 q_1_3 dX11_kind_36 ?_
      refine j_iload_n C 2 dX11_kind_39 rfl rfl ?_
      refine j_iload_n C 3 dX11_kind_40 rfl rfl ?_
      refine j_iast C n_5 hm dX11_kind_41 (fun hm => ?_)
      refine j_aload_n C 1 dX11_kind_42 rfl rfl ?_
      refine j_iload_n C 0 dX11_kind_43 rfl rfl ?_
      refine j_cV C l_X11_122 [.int (hI h 5 (ix v1))] [] (fun u3 => some (.int u3.1)) (fun u3 => u3.2) (fun u3 => [.int u3.1]) n_0 hm (fun l u hu => c_Race_grant hu) rfl (Nat.le_of_ble_eq_true rfl) rfl (Nat.le_of_ble_eq_true rfl) (Nat.le_of_ble_eq_true rfl) (fun _ => rfl) dX11_kind_44 (fun u3 hm => ?_)
      obtain rfl := Option.some.inj hm
      exact j_iret C O dX11_kind_47
theorem c_Race_kind {G : jG} {l : Launch} {v1 : Int32} {v2 : Int32} {h : Hp} {out : (Int32 × Hp)} (hm : s_Race_kind v1 v2 h = some out) : mt G l yX11_kind cX11_kind 4 (some .int) 3 112 [.ref (G.1 + 0), .int v1, .int v2] h (some (.int out.1)) out.2 :=
  mt_of (by decide) (Nat.le_of_ble_eq_true rfl) _ rfl (fun X I C O => w_Race_kind C O hm)
noncomputable def s_Water_freshenCalm_43 (h : Hp) : Option Hp :=
  some h
noncomputable def s_Water_freshenCalm (h : Hp) : Option Hp :=
  if (hI h 50 11) = 0 then
    (s_Arr_fillI 55 ((0 : Int32)) h).bind fun u1 => (s_Water_made (hR u1 50 6) u1).bind fun u2 => lt (sR u2.2 50 6 (some u2.1)) fun h3 => nn (hR h3 50 6) fun r4 => (s_Water_run r4 ((1013 : Int32)) ((0 : Int32)) h3).bind fun u6 => s_Water_freshenCalm_43 (sI u6 50 11 ((1 : Int32)))
  else
    s_Water_freshenCalm_43 h
def O_Water_freshenCalm (G : jG) (X : jX) (out : Hp) : Prop := jO G X (none) none out
theorem w_Water_freshenCalm_43 {G : jG} {X : jX} (C : jC G X cX9_freshenCalm 1 RX9 6 210) {h : Hp} {out : Hp} (O : (O_Water_freshenCalm G X) out) (hm : s_Water_freshenCalm_43 h = some out) : J G X 43 [] [] h := by
  unfold s_Water_freshenCalm_43 at hm
  obtain rfl := Option.some.inj hm
  exact j_vret C O dX9_freshenCalm_43
theorem w_Water_freshenCalm {G : jG} {X : jX} (C : jC G X cX9_freshenCalm 1 RX9 6 210) {h : Hp} {out : Hp} (O : (O_Water_freshenCalm G X) out) (hm : s_Water_freshenCalm h = some out) : J G X 0 [(0, .ref (G.1 + 50))] [] h := by
  unfold s_Water_freshenCalm at hm
  refine j_aload_n C 0 dX9_freshenCalm_0 rfl rfl ?_
  refine j_gZ C f_X9_48 n_50 dX9_freshenCalm_1 ?_
  refine j_ifne C 43 dX9_freshenCalm_4 (by decide) hm (fun hm => ?_) (fun hm => ?_)
  · refine j_aload_n C 0 dX9_freshenCalm_7 rfl rfl ?_
    refine j_gS C f_X9_22 n_50 q_50_3 dX9_freshenCalm_8 ?_
    refine j_iconst C 0 dX9_freshenCalm_11 (by decide) ?_
    refine j_cS C l_X9_97 [.ref (G.1 + 55), .int ((0 : Int32))] [] (fun _ => none) (fun u1 => u1) (fun u1 => []) hm (fun l u hu => c_Arr_fillI hu) rfl (Nat.le_of_ble_eq_true rfl) rfl (Nat.le_of_ble_eq_true rfl) (Nat.le_of_ble_eq_true rfl) (fun _ => rfl) dX9_freshenCalm_12 (fun u1 hm => ?_)
    refine j_aload_n C 0 dX9_freshenCalm_15 rfl rfl ?_
    refine j_aload_n C 0 dX9_freshenCalm_16 rfl rfl ?_
    refine j_gR C f_X9_32 n_50 q_50_6 dX9_freshenCalm_17 ?_
    refine j_cS C l_X9_104 [rv G (hR u1 50 6)] [.ref (G.1 + 50)] (fun u2 => some (.ref (G.1 + u2.1))) (fun u2 => u2.2) (fun u2 => [.ref (G.1 + u2.1), .ref (G.1 + 50)]) hm (fun l u hu => c_Water_made hu) rfl (Nat.le_of_ble_eq_true rfl) rfl (Nat.le_of_ble_eq_true rfl) (Nat.le_of_ble_eq_true rfl) (fun _ => rfl) dX9_freshenCalm_20 (fun u2 hm => ?_)
    refine j_pR C (o := (some u2.1)) f_X9_32 n_50 q_50_6 dX9_freshenCalm_23 ?_
    refine j_aload_n C 0 dX9_freshenCalm_26 rfl rfl ?_
    refine j_aload_n C 0 dX9_freshenCalm_27 rfl rfl ?_
    refine j_nmH hm (fun h3 hm => ?_)
    refine j_gR C f_X9_32 n_50 q_50_6 dX9_freshenCalm_28 ?_
    refine j_sipush C 1013 dX9_freshenCalm_31 (by decide) ?_
    refine j_iconst C 0 dX9_freshenCalm_34 (by decide) ?_
    obtain ⟨r4, c5, hm⟩ := nn_inv hm
    rw [c5]
    change J G X _ _ _ _
    refine j_cV C l_X9_100 [.ref (G.1 + r4), .int ((1013 : Int32)), .int ((0 : Int32))] [] (fun _ => none) (fun u6 => u6) (fun u6 => []) n_50 hm (fun l u hu => c_Water_run hu) rfl (Nat.le_of_ble_eq_true rfl) rfl (Nat.le_of_ble_eq_true rfl) (Nat.le_of_ble_eq_true rfl) (fun _ => rfl) dX9_freshenCalm_35 (fun u6 hm => ?_)
    refine j_aload_n C 0 dX9_freshenCalm_38 rfl rfl ?_
    refine j_iconst C 1 dX9_freshenCalm_39 (by decide) ?_
    refine j_pZ C f_X9_48 n_50 (by decide) dX9_freshenCalm_40 ?_
    refine j_sub (L' := []) [] rfl ?_
    exact w_Water_freshenCalm_43 C O hm
  · refine j_sub (L' := []) [] rfl ?_
    exact w_Water_freshenCalm_43 C O hm
theorem c_Water_freshenCalm {G : jG} {l : Launch} {h : Hp} {out : Hp} (hm : s_Water_freshenCalm h = some out) : mt G l yX9_freshenCalm cX9_freshenCalm 1 (none) 6 210 [.ref (G.1 + 50)] h none out :=
  mt_of (by decide) (Nat.le_of_ble_eq_true rfl) _ rfl (fun X I C O => w_Water_freshenCalm C O hm)
noncomputable def s_Water_slackStart_34 (v1 : Nat) (v2 : Int32) (v3 : Int32) (v4 : Int32) (h : Hp) : Option ((Nat × Int32 × Int32 × Int32) ⊕ Int32) :=
  some (.inl (v1, v2, v3, (v4 + (1 : Int32))))
noncomputable def s_Water_slackStart_5 (v1 : Nat) (v2 : Int32) (v3 : Int32) (v4 : Int32) (h : Hp) : Option ((Nat × Int32 × Int32 × Int32) ⊕ Int32) :=
  if ((1440 : Int32)) ≤ v4 then
    some (.inr ((-1 : Int32)))
  else
    (s_Water_beginsSlack v1 v4 h).bind fun u1 => if u1 = 0 then
      s_Water_slackStart_34 v1 v2 v3 v4 h
    else
      if v3 = v2 then
        some (.inr (v4))
      else
        s_Water_slackStart_34 v1 v2 (v3 + (1 : Int32)) v4 h
noncomputable def s_Water_slackStart (v1 : Nat) (v2 : Int32) (h : Hp) : Option Int32 :=
  lp (fun q => s_Water_slackStart_5 q.1 q.2.1 q.2.2.1 q.2.2.2 h) (v1, v2, ((0 : Int32)), ((0 : Int32)))
def O_Water_slackStart (G : jG) (X : jX) (h : Hp) (out : Int32) : Prop := jO G X (some .int) (some (.int out)) h
def P_Water_slackStart_5 (G : jG) (X : jX) (h : Hp) (q : Nat × Int32 × Int32 × Int32) : Prop := J G X 5 [(0, .ref (G.1 + 50)), (1, .ref (G.1 + q.1)), (2, .int q.2.1), (3, .int q.2.2.1), (4, .int q.2.2.2)] [] h
def O_Water_slackStart_5 (G : jG) (X : jX) (h : Hp) (t : ((Nat × Int32 × Int32 × Int32) ⊕ Int32)) : Prop := Sum.elim (P_Water_slackStart_5 G X h) (O_Water_slackStart G X h) t
theorem w_Water_slackStart_34 {G : jG} {X : jX} (C : jC G X cX9_slackStart 5 RX9 3 113) {v1 : Nat} {v2 : Int32} {v3 : Int32} {v4 : Int32} {h : Hp} {out : ((Nat × Int32 × Int32 × Int32) ⊕ Int32)} (O : (O_Water_slackStart_5 G X h) out) (hm : s_Water_slackStart_34 v1 v2 v3 v4 h = some out) : J G X 34 [(0, .ref (G.1 + 50)), (1, .ref (G.1 + v1)), (2, .int v2), (3, .int v3), (4, .int v4)] [] h := by
  unfold s_Water_slackStart_34 at hm
  refine j_iinc C 4 [(4, .int (v4 + (1 : Int32))), (0, .ref (G.1 + 50)), (1, .ref (G.1 + v1)), (2, .int v2), (3, .int v3)] dX9_slackStart_34 rfl (add_lit (by decide)) (by decide) rfl ?_
  refine j_goto C 5 dX9_slackStart_37 (by decide) ?_
  obtain rfl := Option.some.inj hm
  refine j_sub (L' := [(0, .ref (G.1 + 50)), (1, .ref (G.1 + v1)), (2, .int v2), (3, .int v3), (4, .int (v4 + (1 : Int32)))]) [1, 2, 3, 4, 0] rfl ?_
  exact O
theorem w_Water_slackStart_5 {G : jG} {X : jX} (C : jC G X cX9_slackStart 5 RX9 3 113) {v1 : Nat} {v2 : Int32} {v3 : Int32} {v4 : Int32} {h : Hp} {out : ((Nat × Int32 × Int32 × Int32) ⊕ Int32)} (O : (O_Water_slackStart_5 G X h) out) (hm : s_Water_slackStart_5 v1 v2 v3 v4 h = some out) : J G X 5 [(0, .ref (G.1 + 50)), (1, .ref (G.1 + v1)), (2, .int v2), (3, .int v3), (4, .int v4)] [] h := by
  unfold s_Water_slackStart_5 at hm
  refine j_iload C 4 dX9_slackStart_5 rfl ?_
  refine j_sipush C 1440 dX9_slackStart_7 (by decide) ?_
  refine j_if_icmpge C 40 dX9_slackStart_10 (by decide) hm (fun hm => ?_) (fun hm => ?_)
  · refine j_iconst C (-1 : Int32) dX9_slackStart_40 (by decide) ?_
    obtain rfl := Option.some.inj hm
    exact j_iret C O dX9_slackStart_41
  · refine j_aload_n C 0 dX9_slackStart_13 rfl rfl ?_
    refine j_aload_n C 1 dX9_slackStart_14 rfl rfl ?_
    refine j_iload C 4 dX9_slackStart_15 rfl ?_
    refine j_cV C l_X9_161 [.ref (G.1 + v1), .int v4] [] (fun u1 => some (.int u1)) (fun _ => h) (fun u1 => [.int u1]) n_50 hm (fun l u hu => c_Water_beginsSlack hu) rfl (Nat.le_of_ble_eq_true rfl) rfl (Nat.le_of_ble_eq_true rfl) (Nat.le_of_ble_eq_true rfl) (fun _ => rfl) dX9_slackStart_17 (fun u1 hm => ?_)
    refine j_ifeq C 34 dX9_slackStart_20 (by decide) hm (fun hm => ?_) (fun hm => ?_)
    · refine j_sub (L' := [(0, .ref (G.1 + 50)), (1, .ref (G.1 + v1)), (2, .int v2), (3, .int v3), (4, .int v4)]) [0, 1, 2, 3, 4] rfl ?_
      exact w_Water_slackStart_34 C O hm
    · refine j_iload_n C 3 dX9_slackStart_23 rfl rfl ?_
      refine j_iload_n C 2 dX9_slackStart_24 rfl rfl ?_
      refine j_if_icmpne C 31 dX9_slackStart_25 (by decide) hm (fun hm => ?_) (fun hm => ?_)
      · refine j_iload C 4 dX9_slackStart_28 rfl ?_
        obtain rfl := Option.some.inj hm
        exact j_iret C O dX9_slackStart_30
      · refine j_iinc C 3 [(3, .int (v3 + (1 : Int32))), (0, .ref (G.1 + 50)), (1, .ref (G.1 + v1)), (2, .int v2), (4, .int v4)] dX9_slackStart_31 rfl (add_lit (by decide)) (by decide) rfl ?_
        refine j_sub (L' := [(0, .ref (G.1 + 50)), (1, .ref (G.1 + v1)), (2, .int v2), (3, .int (v3 + (1 : Int32))), (4, .int v4)]) [1, 2, 3, 0, 4] rfl ?_
        exact w_Water_slackStart_34 C O hm
theorem k_Water_slackStart_5 {G : jG} {X : jX} (C : jC G X cX9_slackStart 5 RX9 3 113) {v1 : Nat} {v2 : Int32} {v3 : Int32} {v4 : Int32} {h : Hp} {out : Int32} (O : (O_Water_slackStart G X h) out) (hm : lp (fun q => s_Water_slackStart_5 q.1 q.2.1 q.2.2.1 q.2.2.2 h) (v1, v2, v3, v4) = some out) : J G X 5 [(0, .ref (G.1 + 50)), (1, .ref (G.1 + v1)), (2, .int v2), (3, .int v3), (4, .int v4)] [] h :=
  lp_ok (P := P_Water_slackStart_5 G X h) (O := (O_Water_slackStart G X h)) (fun q r hm O => w_Water_slackStart_5 C O hm) hm O
theorem w_Water_slackStart {G : jG} {X : jX} (C : jC G X cX9_slackStart 5 RX9 3 113) {v1 : Nat} {v2 : Int32} {h : Hp} {out : Int32} (O : (O_Water_slackStart G X h) out) (hm : s_Water_slackStart v1 v2 h = some out) : J G X 0 [(0, .ref (G.1 + 50)), (1, .ref (G.1 + v1)), (2, .int v2)] [] h := by
  unfold s_Water_slackStart at hm
  refine j_iconst C 0 dX9_slackStart_0 (by decide) ?_
  refine j_istore_n C [(3, .int ((0 : Int32))), (0, .ref (G.1 + 50)), (1, .ref (G.1 + v1)), (2, .int v2)] dX9_slackStart_1 rfl (by decide) rfl ?_
  refine j_iconst C 0 dX9_slackStart_2 (by decide) ?_
  refine j_istore C [(4, .int ((0 : Int32))), (3, .int ((0 : Int32))), (0, .ref (G.1 + 50)), (1, .ref (G.1 + v1)), (2, .int v2)] dX9_slackStart_3 (by decide) rfl ?_
  refine j_sub (L' := [(0, .ref (G.1 + 50)), (1, .ref (G.1 + v1)), (2, .int v2), (3, .int ((0 : Int32))), (4, .int ((0 : Int32)))]) [2, 3, 4, 1, 0] rfl ?_
  exact k_Water_slackStart_5 C O hm
theorem c_Water_slackStart {G : jG} {l : Launch} {v1 : Nat} {v2 : Int32} {h : Hp} {out : Int32} (hm : s_Water_slackStart v1 v2 h = some out) : mt G l yX9_slackStart cX9_slackStart 5 (some .int) 3 113 [.ref (G.1 + 50), .ref (G.1 + v1), .int v2] h (some (.int out)) h :=
  mt_of (by decide) (Nat.le_of_ble_eq_true rfl) _ rfl (fun X I C O => w_Water_slackStart C O hm)
noncomputable def s_Race_late_62 (s0 : Int32) (h : Hp) : Option (Int32 × Hp) :=
  some (s0, h)
noncomputable def s_Race_late_54 (h : Hp) : Option (Int32 × Hp) :=
  s_Race_late_62 ((-100000 : Int32)) h
noncomputable def s_Race_late (v1 : Int32) (h : Hp) : Option (Int32 × Hp) :=
  (s_Water_freshenToday h).bind fun u1 => (s_Water_freshenCalm u1).bind fun u2 => (s_Water_slackStart 57 v1 u2).bind fun u3 => nn (hR u2 50 6) fun r4 => (s_Water_slackStart r4 v1 u2).bind fun u6 => if u3 < 0 then
    s_Race_late_54 u2
  else
    if 0 ≤ u6 then
      s_Race_late_62 (u3 - u6) u2
    else
      s_Race_late_54 u2
def O_Race_late (G : jG) (X : jX) (out : (Int32 × Hp)) : Prop := jO G X (some .int) (some (.int out.1)) out.2
theorem w_Race_late_62 {G : jG} {X : jX} (C : jC G X cX11_late 4 RX11 7 230) {s0 : Int32} {h : Hp} {out : (Int32 × Hp)} (O : (O_Race_late G X) out) (hm : s_Race_late_62 s0 h = some out) : J G X 62 [] [.int s0] h := by
  unfold s_Race_late_62 at hm
  obtain rfl := Option.some.inj hm
  exact j_iret C O dX11_late_62
theorem w_Race_late_54 {G : jG} {X : jX} (C : jC G X cX11_late 4 RX11 7 230) {h : Hp} {out : (Int32 × Hp)} (O : (O_Race_late G X) out) (hm : s_Race_late_54 h = some out) : J G X 54 [] [] h := by
  unfold s_Race_late_54 at hm
  refine j_ldc C wd_874 dX11_late_54 ?_
  refine j_goto C 62 dX11_late_56 (by decide) ?_
  refine j_sub (L' := []) [] rfl ?_
  exact w_Race_late_62 C O hm
theorem w_Race_late {G : jG} {X : jX} (C : jC G X cX11_late 4 RX11 7 230) {v1 : Int32} {h : Hp} {out : (Int32 × Hp)} (O : (O_Race_late G X) out) (hm : s_Race_late v1 h = some out) : J G X 0 [(0, .ref (G.1 + 0)), (1, .int v1)] [] h := by
  unfold s_Race_late at hm
  refine j_aload_n C 0 dX11_late_0 rfl rfl ?_
  refine j_gS C f_X11_45 n_0 q_0_5 dX11_late_1 ?_
  refine j_cV C l_X11_194 [] [] (fun _ => none) (fun u1 => u1) (fun u1 => []) n_50 hm (fun l u hu => c_Water_freshenToday hu) rfl (Nat.le_of_ble_eq_true rfl) rfl (Nat.le_of_ble_eq_true rfl) (Nat.le_of_ble_eq_true rfl) (fun _ => rfl) dX11_late_4 (fun u1 hm => ?_)
  refine j_aload_n C 0 dX11_late_7 rfl rfl ?_
  refine j_gS C f_X11_45 n_0 q_0_5 dX11_late_8 ?_
  refine j_cV C l_X11_223 [] [] (fun _ => none) (fun u2 => u2) (fun u2 => []) n_50 hm (fun l u hu => c_Water_freshenCalm hu) rfl (Nat.le_of_ble_eq_true rfl) rfl (Nat.le_of_ble_eq_true rfl) (Nat.le_of_ble_eq_true rfl) (fun _ => rfl) dX11_late_11 (fun u2 hm => ?_)
  refine j_aload_n C 0 dX11_late_14 rfl rfl ?_
  refine j_gS C f_X11_45 n_0 q_0_5 dX11_late_15 ?_
  refine j_aload_n C 0 dX11_late_18 rfl rfl ?_
  refine j_gS C f_X11_45 n_0 q_0_5 dX11_late_19 ?_
  refine j_gS C f_X11_197 n_50 q_50_5 dX11_late_22 ?_
  refine j_iload_n C 1 dX11_late_25 rfl rfl ?_
  refine j_cV C l_X11_213 [.ref (G.1 + 57), .int v1] [] (fun u3 => some (.int u3)) (fun _ => u2) (fun u3 => [.int u3]) n_50 hm (fun l u hu => c_Water_slackStart hu) rfl (Nat.le_of_ble_eq_true rfl) rfl (Nat.le_of_ble_eq_true rfl) (Nat.le_of_ble_eq_true rfl) (fun _ => rfl) dX11_late_26 (fun u3 hm => ?_)
  refine j_istore_n C [(2, .int u3), (0, .ref (G.1 + 0)), (1, .int v1)] dX11_late_29 rfl (by decide) rfl ?_
  refine j_aload_n C 1 dX11_late_30 rfl rfl ?_
  refine j_gS C f_X11_45 n_0 q_0_5 dX11_late_31 ?_
  refine j_aload_n C 1 dX11_late_34 rfl rfl ?_
  refine j_gS C f_X11_45 n_0 q_0_5 dX11_late_35 ?_
  refine j_gR C f_X11_226 n_50 q_50_6 dX11_late_38 ?_
  refine j_iload_n C 2 dX11_late_41 rfl rfl ?_
  obtain ⟨r4, c5, hm⟩ := nn_inv hm
  rw [c5]
  change J G X _ _ _ _
  refine j_cV C l_X11_213 [.ref (G.1 + r4), .int v1] [] (fun u6 => some (.int u6)) (fun _ => u2) (fun u6 => [.int u6]) n_50 hm (fun l u hu => c_Water_slackStart hu) rfl (Nat.le_of_ble_eq_true rfl) rfl (Nat.le_of_ble_eq_true rfl) (Nat.le_of_ble_eq_true rfl) (fun _ => rfl) dX11_late_42 (fun u6 hm => ?_)
  refine j_istore_n C [(3, .int u6), (2, .int u3), (0, .ref (G.1 + 0)), (1, .int v1)] dX11_late_45 rfl (by decide) rfl ?_
  refine j_iload_n C 1 dX11_late_46 rfl rfl ?_
  refine j_iflt C 54 dX11_late_47 (by decide) hm (fun hm => ?_) (fun hm => ?_)
  · refine j_sub (L' := []) [] rfl ?_
    exact w_Race_late_54 C O hm
  · refine j_iload_n C 0 dX11_late_50 rfl rfl ?_
    refine j_ifge C 59 dX11_late_51 (by decide) hm (fun hm => ?_) (fun hm => ?_)
    · refine j_iload_n C 1 dX11_late_59 rfl rfl ?_
      refine j_iload_n C 0 dX11_late_60 rfl rfl ?_
      refine j_isub C dX11_late_61 ?_
      refine j_sub (L' := []) [] rfl ?_
      exact w_Race_late_62 C O hm
    · refine j_sub (L' := []) [] rfl ?_
      exact w_Race_late_54 C O hm
theorem c_Race_late {G : jG} {l : Launch} {v1 : Int32} {h : Hp} {out : (Int32 × Hp)} (hm : s_Race_late v1 h = some out) : mt G l yX11_late cX11_late 4 (some .int) 7 230 [.ref (G.1 + 0), .int v1] h (some (.int out.1)) out.2 :=
  mt_of (by decide) (Nat.le_of_ble_eq_true rfl) _ rfl (fun X I C O => w_Race_late C O hm)
noncomputable def s_Ways_reaching (v1 : Int64) (v3 : Int32) (h : Hp) : Option Int64 :=
  ib v3 144 <| ib v3 144 <| ib v3 144 <| lt ((((hL h 63 (ix v3)) &&& ((v1 ||| (z_lshl v1 ((10 : Int32)))) ||| (z_lushr v1 ((10 : Int32))))) ||| ((hL h 64 (ix v3)) &&& (z_lushr v1 ((1 : Int32))))) ||| ((hL h 65 (ix v3)) &&& (z_lshl v1 ((1 : Int32))))) fun x1 => ib v3 144 <| some ((x1 &&& ((1125899906842623 : Int64))) &&& (hL h 62 (ix v3)))
def O_Ways_reaching (G : jG) (X : jX) (h : Hp) (out : Int64) : Prop := jO G X (some .long) (some (.long out)) h
theorem w_Ways_reaching {G : jG} {X : jX} (C : jC G X cX10_reaching 6 RX10 1 70) {v1 : Int64} {v3 : Int32} {h : Hp} {out : Int64} (O : (O_Ways_reaching G X h) out) (hm : s_Ways_reaching v1 v3 h = some out) : J G X 0 [(0, .ref (G.1 + 58)), (1, .long v1), (3, .int v3)] [] h := by
  unfold s_Ways_reaching at hm
  refine j_aload_n C 0 dX10_reaching_0 rfl rfl ?_
  refine j_gS C f_X10_25 n_58 q_58_6 dX10_reaching_1 ?_
  refine j_iload_n C 2 dX10_reaching_4 rfl rfl ?_
  refine j_lald C n_63 hm dX10_reaching_5 (fun hm => ?_)
  refine j_lload_n C 1 dX10_reaching_6 rfl rfl ?_
  refine j_lload_n C 1 dX10_reaching_7 rfl rfl ?_
  refine j_bipush C 10 dX10_reaching_8 (by decide) ?_
  refine j_lshl C dX10_reaching_10 ?_
  refine j_lor C dX10_reaching_11 ?_
  refine j_lload_n C 1 dX10_reaching_12 rfl rfl ?_
  refine j_bipush C 10 dX10_reaching_13 (by decide) ?_
  refine j_lushr C dX10_reaching_15 ?_
  refine j_lor C dX10_reaching_16 ?_
  refine j_land C dX10_reaching_17 ?_
  refine j_aload_n C 0 dX10_reaching_18 rfl rfl ?_
  refine j_gS C f_X10_28 n_58 q_58_7 dX10_reaching_19 ?_
  refine j_iload_n C 2 dX10_reaching_22 rfl rfl ?_
  refine j_lald C n_64 hm dX10_reaching_23 (fun hm => ?_)
  refine j_lload_n C 1 dX10_reaching_24 rfl rfl ?_
  refine j_iconst C 1 dX10_reaching_25 (by decide) ?_
  refine j_lushr C dX10_reaching_26 ?_
  refine j_land C dX10_reaching_27 ?_
  refine j_lor C dX10_reaching_28 ?_
  refine j_aload_n C 0 dX10_reaching_29 rfl rfl ?_
  refine j_gS C f_X10_31 n_58 q_58_8 dX10_reaching_30 ?_
  refine j_iload_n C 2 dX10_reaching_33 rfl rfl ?_
  refine j_lald C n_65 hm dX10_reaching_34 (fun hm => ?_)
  refine j_lload_n C 1 dX10_reaching_35 rfl rfl ?_
  refine j_iconst C 1 dX10_reaching_36 (by decide) ?_
  refine j_lshl C dX10_reaching_37 ?_
  refine j_land C dX10_reaching_38 ?_
  refine j_lor C dX10_reaching_39 ?_
  refine j_nmL hm (fun x1 hm => ?_)
  refine j_lstore C [(4, .long x1), (0, .ref (G.1 + 58)), (1, .long v1), (3, .int v3)] dX10_reaching_40 (by decide) rfl ?_
  refine j_lload C 0 dX10_reaching_42 rfl ?_
  refine j_ldc2 C wd_1051 dX10_reaching_44 ?_
  refine j_land C dX10_reaching_47 ?_
  refine j_aload_n C 1 dX10_reaching_48 rfl rfl ?_
  refine j_gS C f_X10_22 n_58 q_58_5 dX10_reaching_49 ?_
  refine j_iload_n C 3 dX10_reaching_52 rfl rfl ?_
  refine j_lald C n_62 hm dX10_reaching_53 (fun hm => ?_)
  refine j_land C dX10_reaching_54 ?_
  obtain rfl := Option.some.inj hm
  exact j_lret C O dX10_reaching_55
theorem c_Ways_reaching {G : jG} {l : Launch} {v1 : Int64} {v3 : Int32} {h : Hp} {out : Int64} (hm : s_Ways_reaching v1 v3 h = some out) : mt G l yX10_reaching cX10_reaching 6 (some .long) 1 70 [.ref (G.1 + 58), .long v1, .int v3] h (some (.long out)) h :=
  mt_of (by decide) (Nat.le_of_ble_eq_true rfl) _ rfl (fun X I C O => w_Ways_reaching C O hm)
noncomputable def s_Ways_lastStart_68 (v1 : Int32) (v4 : Int64) (v8 : Int32) (s0 : Int64) (h : Hp) : Option ((Int32 × Int64 × Int64 × Int32) ⊕ Int32) :=
  some (.inl (v1, v4, s0, (v8 + (-1 : Int32))))
noncomputable def s_Ways_lastStart_19 (v1 : Int32) (v4 : Int64) (v6 : Int64) (v8 : Int32) (h : Hp) : Option ((Int32 × Int64 × Int64 × Int32) ⊕ Int32) :=
  if v8 < 0 then
    some (.inr ((-1 : Int32)))
  else
    (s_Ways_has v6 v1 h).bind fun u1 => if u1 = 0 then
      if v8 ≤ 0 then
        s_Ways_lastStart_68 v1 v4 v8 ((0 : Int64)) h
      else
        (s_Ways_reaching v6 (v8 - ((1 : Int32))) h).bind fun u2 => ib (v8 - ((1 : Int32))) 144 <| s_Ways_lastStart_68 v1 v4 v8 (u2 ||| ((hL h 62 (ix (v8 - ((1 : Int32))))) &&& v4)) h
    else
      some (.inr (v8))
noncomputable def s_Ways_lastStart (v1 : Int32) (v2 : Int32) (v3 : Int32) (h : Hp) : Option Int32 :=
  ib v3 144 <| lt ((hL h 62 (ix v3)) &&& (z_lshl ((1 : Int64)) v2)) fun x1 => lp (fun q => s_Ways_lastStart_19 q.1 q.2.1 q.2.2.1 q.2.2.2 h) (v1, (z_lshl ((1 : Int64)) v2), x1, v3)
def O_Ways_lastStart (G : jG) (X : jX) (h : Hp) (out : Int32) : Prop := jO G X (some .int) (some (.int out)) h
def P_Ways_lastStart_19 (G : jG) (X : jX) (h : Hp) (q : Int32 × Int64 × Int64 × Int32) : Prop := J G X 19 [(0, .ref (G.1 + 58)), (1, .int q.1), (4, .long q.2.1), (6, .long q.2.2.1), (8, .int q.2.2.2)] [] h
def O_Ways_lastStart_19 (G : jG) (X : jX) (h : Hp) (t : ((Int32 × Int64 × Int64 × Int32) ⊕ Int32)) : Prop := Sum.elim (P_Ways_lastStart_19 G X h) (O_Ways_lastStart G X h) t
theorem w_Ways_lastStart_68 {G : jG} {X : jX} (C : jC G X cX10_lastStart 9 RX10 2 95) {v1 : Int32} {v4 : Int64} {v8 : Int32} {s0 : Int64} {h : Hp} {out : ((Int32 × Int64 × Int64 × Int32) ⊕ Int32)} (O : (O_Ways_lastStart_19 G X h) out) (hm : s_Ways_lastStart_68 v1 v4 v8 s0 h = some out) : J G X 68 [(0, .ref (G.1 + 58)), (1, .int v1), (4, .long v4), (8, .int v8)] [.long s0] h := by
  unfold s_Ways_lastStart_68 at hm
  refine j_lstore C [(6, .long s0), (0, .ref (G.1 + 58)), (1, .int v1), (4, .long v4), (8, .int v8)] dX10_lastStart_68 (by decide) rfl ?_
  refine j_iinc C 4 [(8, .int (v8 + (-1 : Int32))), (6, .long s0), (0, .ref (G.1 + 58)), (1, .int v1), (4, .long v4)] dX10_lastStart_70 rfl (add_lit (by decide)) (by decide) rfl ?_
  refine j_goto C 19 dX10_lastStart_73 (by decide) ?_
  obtain rfl := Option.some.inj hm
  refine j_sub (L' := [(0, .ref (G.1 + 58)), (1, .int v1), (4, .long v4), (6, .long s0), (8, .int (v8 + (-1 : Int32)))]) [2, 3, 4, 1, 0] rfl ?_
  exact O
theorem w_Ways_lastStart_19 {G : jG} {X : jX} (C : jC G X cX10_lastStart 9 RX10 2 95) {v1 : Int32} {v4 : Int64} {v6 : Int64} {v8 : Int32} {h : Hp} {out : ((Int32 × Int64 × Int64 × Int32) ⊕ Int32)} (O : (O_Ways_lastStart_19 G X h) out) (hm : s_Ways_lastStart_19 v1 v4 v6 v8 h = some out) : J G X 19 [(0, .ref (G.1 + 58)), (1, .int v1), (4, .long v4), (6, .long v6), (8, .int v8)] [] h := by
  unfold s_Ways_lastStart_19 at hm
  refine j_iload C 4 dX10_lastStart_19 rfl ?_
  refine j_iflt C 76 dX10_lastStart_21 (by decide) hm (fun hm => ?_) (fun hm => ?_)
  · refine j_iconst C (-1 : Int32) dX10_lastStart_76 (by decide) ?_
    obtain rfl := Option.some.inj hm
    exact j_iret C O dX10_lastStart_77
  · refine j_lload C 3 dX10_lastStart_24 rfl ?_
    refine j_iload_n C 1 dX10_lastStart_26 rfl rfl ?_
    refine j_cS C l_X10_103 [.long v6, .int v1] [] (fun u1 => some (.int u1)) (fun _ => h) (fun u1 => [.int u1]) hm (fun l u hu => c_Ways_has hu) rfl (Nat.le_of_ble_eq_true rfl) rfl (Nat.le_of_ble_eq_true rfl) (Nat.le_of_ble_eq_true rfl) (fun _ => rfl) dX10_lastStart_27 (fun u1 hm => ?_)
    refine j_ifeq C 36 dX10_lastStart_30 (by decide) hm (fun hm => ?_) (fun hm => ?_)
    · refine j_iload C 4 dX10_lastStart_36 rfl ?_
      refine j_ifle C 67 dX10_lastStart_38 (by decide) hm (fun hm => ?_) (fun hm => ?_)
      · refine j_lconst C 0 dX10_lastStart_67 (by decide) ?_
        refine j_sub (L' := [(0, .ref (G.1 + 58)), (1, .int v1), (4, .long v4), (8, .int v8)]) [0, 1, 2, 4] rfl ?_
        exact w_Ways_lastStart_68 C O hm
      · refine j_aload_n C 0 dX10_lastStart_41 rfl rfl ?_
        refine j_lload C 3 dX10_lastStart_42 rfl ?_
        refine j_iload C 4 dX10_lastStart_44 rfl ?_
        refine j_iconst C 1 dX10_lastStart_46 (by decide) ?_
        refine j_isub C dX10_lastStart_47 ?_
        refine j_cV C l_X10_115 [.long v6, .int (v8 - ((1 : Int32)))] [] (fun u2 => some (.long u2)) (fun _ => h) (fun u2 => [.long u2]) n_58 hm (fun l u hu => c_Ways_reaching hu) rfl (Nat.le_of_ble_eq_true rfl) rfl (Nat.le_of_ble_eq_true rfl) (Nat.le_of_ble_eq_true rfl) (fun _ => rfl) dX10_lastStart_48 (fun u2 hm => ?_)
        refine j_aload_n C 0 dX10_lastStart_51 rfl rfl ?_
        refine j_gS C f_X10_22 n_58 q_58_5 dX10_lastStart_52 ?_
        refine j_iload C 4 dX10_lastStart_55 rfl ?_
        refine j_iconst C 1 dX10_lastStart_57 (by decide) ?_
        refine j_isub C dX10_lastStart_58 ?_
        refine j_lald C n_62 hm dX10_lastStart_59 (fun hm => ?_)
        refine j_lload C 2 dX10_lastStart_60 rfl ?_
        refine j_land C dX10_lastStart_62 ?_
        refine j_lor C dX10_lastStart_63 ?_
        refine j_goto C 68 dX10_lastStart_64 (by decide) ?_
        refine j_sub (L' := [(0, .ref (G.1 + 58)), (1, .int v1), (4, .long v4), (8, .int v8)]) [0, 1, 2, 4] rfl ?_
        exact w_Ways_lastStart_68 C O hm
    · refine j_iload C 4 dX10_lastStart_33 rfl ?_
      obtain rfl := Option.some.inj hm
      exact j_iret C O dX10_lastStart_35
theorem k_Ways_lastStart_19 {G : jG} {X : jX} (C : jC G X cX10_lastStart 9 RX10 2 95) {v1 : Int32} {v4 : Int64} {v6 : Int64} {v8 : Int32} {h : Hp} {out : Int32} (O : (O_Ways_lastStart G X h) out) (hm : lp (fun q => s_Ways_lastStart_19 q.1 q.2.1 q.2.2.1 q.2.2.2 h) (v1, v4, v6, v8) = some out) : J G X 19 [(0, .ref (G.1 + 58)), (1, .int v1), (4, .long v4), (6, .long v6), (8, .int v8)] [] h :=
  lp_ok (P := P_Ways_lastStart_19 G X h) (O := (O_Ways_lastStart G X h)) (fun q r hm O => w_Ways_lastStart_19 C O hm) hm O
theorem w_Ways_lastStart {G : jG} {X : jX} (C : jC G X cX10_lastStart 9 RX10 2 95) {v1 : Int32} {v2 : Int32} {v3 : Int32} {h : Hp} {out : Int32} (O : (O_Ways_lastStart G X h) out) (hm : s_Ways_lastStart v1 v2 v3 h = some out) : J G X 0 [(0, .ref (G.1 + 58)), (1, .int v1), (2, .int v2), (3, .int v3)] [] h := by
  unfold s_Ways_lastStart at hm
  refine j_lconst C 1 dX10_lastStart_0 (by decide) ?_
  refine j_iload_n C 2 dX10_lastStart_1 rfl rfl ?_
  refine j_lshl C dX10_lastStart_2 ?_
  refine j_lstore C [(4, .long (z_lshl ((1 : Int64)) v2)), (0, .ref (G.1 + 58)), (1, .int v1), (2, .int v2), (3, .int v3)] dX10_lastStart_3 (by decide) rfl ?_
  refine j_aload_n C 1 dX10_lastStart_5 rfl rfl ?_
  refine j_gS C f_X10_22 n_58 q_58_5 dX10_lastStart_6 ?_
  refine j_iload_n C 4 dX10_lastStart_9 rfl rfl ?_
  refine j_lald C n_62 hm dX10_lastStart_10 (fun hm => ?_)
  refine j_lload C 0 dX10_lastStart_11 rfl ?_
  refine j_land C dX10_lastStart_13 ?_
  refine j_nmL hm (fun x1 hm => ?_)
  refine j_lstore C [(6, .long x1), (4, .long (z_lshl ((1 : Int64)) v2)), (0, .ref (G.1 + 58)), (1, .int v1), (2, .int v2), (3, .int v3)] dX10_lastStart_14 (by decide) rfl ?_
  refine j_iload_n C 5 dX10_lastStart_16 rfl rfl ?_
  refine j_istore C [(8, .int v3), (6, .long x1), (4, .long (z_lshl ((1 : Int64)) v2)), (0, .ref (G.1 + 58)), (1, .int v1), (2, .int v2), (3, .int v3)] dX10_lastStart_17 (by decide) rfl ?_
  refine j_sub (L' := [(0, .ref (G.1 + 58)), (1, .int v1), (4, .long (z_lshl ((1 : Int64)) v2)), (6, .long x1), (8, .int v3)]) [3, 4, 2, 1, 0] rfl ?_
  exact k_Ways_lastStart_19 C O hm
theorem c_Ways_lastStart {G : jG} {l : Launch} {v1 : Int32} {v2 : Int32} {v3 : Int32} {h : Hp} {out : Int32} (hm : s_Ways_lastStart v1 v2 v3 h = some out) : mt G l yX10_lastStart cX10_lastStart 9 (some .int) 2 95 [.ref (G.1 + 58), .int v1, .int v2, .int v3] h (some (.int out)) h :=
  mt_of (by decide) (Nat.le_of_ble_eq_true rfl) _ rfl (fun X I C O => w_Ways_lastStart C O hm)
noncomputable def s_Race_latest_30 (h : Hp) : Option (Int32 × Hp) :=
  some ((-1 : Int32), h)
noncomputable def s_Race_latest (v1 : Int32) (v2 : Int32) (v3 : Int32) (v4 : Int32) (h : Hp) : Option (Int32 × Hp) :=
  (s_Race_isBoat v1 h).bind fun u1 => if u1 = 0 then
    s_Race_latest_30 h
  else
    (s_Race_isCell v2 h).bind fun u2 => if u2 = 0 then
      s_Race_latest_30 h
    else
      (s_Race_isCell v3 h).bind fun u3 => if u3 = 0 then
        s_Race_latest_30 h
      else
        (s_Race_isStep v4 h).bind fun u4 => if u4 = 0 then
          s_Race_latest_30 h
        else
          (s_Water_freshenToday h).bind fun u5 => (s_Ways_survey v1 u5).bind fun u6 => (s_Ways_lastStart v2 v3 v4 u6).bind fun u7 => some (u7, u6)
def O_Race_latest (G : jG) (X : jX) (out : (Int32 × Hp)) : Prop := jO G X (some .int) (some (.int out.1)) out.2
theorem w_Race_latest_30 {G : jG} {X : jX} (C : jC G X cX11_latest 5 RX11 7 230) {h : Hp} {out : (Int32 × Hp)} (O : (O_Race_latest G X) out) (hm : s_Race_latest_30 h = some out) : J G X 30 [] [] h := by
  unfold s_Race_latest_30 at hm
  refine j_iconst C (-1 : Int32) dX11_latest_30 (by decide) ?_
  obtain rfl := Option.some.inj hm
  exact j_iret C O dX11_latest_31
theorem w_Race_latest {G : jG} {X : jX} (C : jC G X cX11_latest 5 RX11 7 230) {v1 : Int32} {v2 : Int32} {v3 : Int32} {v4 : Int32} {h : Hp} {out : (Int32 × Hp)} (O : (O_Race_latest G X) out) (hm : s_Race_latest v1 v2 v3 v4 h = some out) : J G X 0 [(0, .ref (G.1 + 0)), (1, .int v1), (2, .int v2), (3, .int v3), (4, .int v4)] [] h := by
  unfold s_Race_latest at hm
  refine j_aload_n C 0 dX11_latest_0 rfl rfl ?_
  refine j_iload_n C 1 dX11_latest_1 rfl rfl ?_
  refine j_cV C l_X11_238 [.int v1] [] (fun u1 => some (.int u1)) (fun _ => h) (fun u1 => [.int u1]) n_0 hm (fun l u hu => c_Race_isBoat hu) rfl (Nat.le_of_ble_eq_true rfl) rfl (Nat.le_of_ble_eq_true rfl) (Nat.le_of_ble_eq_true rfl) (fun _ => rfl) dX11_latest_2 (fun u1 hm => ?_)
  refine j_ifeq C 30 dX11_latest_5 (by decide) hm (fun hm => ?_) (fun hm => ?_)
  · refine j_sub (L' := []) [] rfl ?_
    exact w_Race_latest_30 C O hm
  · refine j_iload_n C 2 dX11_latest_8 rfl rfl ?_
    refine j_cS C l_X11_200 [.int v2] [] (fun u2 => some (.int u2)) (fun _ => h) (fun u2 => [.int u2]) hm (fun l u hu => c_Race_isCell hu) rfl (Nat.le_of_ble_eq_true rfl) rfl (Nat.le_of_ble_eq_true rfl) (Nat.le_of_ble_eq_true rfl) (fun _ => rfl) dX11_latest_9 (fun u2 hm => ?_)
    refine j_ifeq C 30 dX11_latest_12 (by decide) hm (fun hm => ?_) (fun hm => ?_)
    · refine j_sub (L' := []) [] rfl ?_
      exact w_Race_latest_30 C O hm
    · refine j_iload_n C 3 dX11_latest_15 rfl rfl ?_
      refine j_cS C l_X11_200 [.int v3] [] (fun u3 => some (.int u3)) (fun _ => h) (fun u3 => [.int u3]) hm (fun l u hu => c_Race_isCell hu) rfl (Nat.le_of_ble_eq_true rfl) rfl (Nat.le_of_ble_eq_true rfl) (Nat.le_of_ble_eq_true rfl) (fun _ => rfl) dX11_latest_16 (fun u3 hm => ?_)
      refine j_ifeq C 30 dX11_latest_19 (by decide) hm (fun hm => ?_) (fun hm => ?_)
      · refine j_sub (L' := []) [] rfl ?_
        exact w_Race_latest_30 C O hm
      · refine j_iload C 4 dX11_latest_22 rfl ?_
        refine j_cS C l_X11_241 [.int v4] [] (fun u4 => some (.int u4)) (fun _ => h) (fun u4 => [.int u4]) hm (fun l u hu => c_Race_isStep hu) rfl (Nat.le_of_ble_eq_true rfl) rfl (Nat.le_of_ble_eq_true rfl) (Nat.le_of_ble_eq_true rfl) (fun _ => rfl) dX11_latest_24 (fun u4 hm => ?_)
        refine j_ifne C 32 dX11_latest_27 (by decide) hm (fun hm => ?_) (fun hm => ?_)
        · refine j_sub (L' := []) [] rfl ?_
          exact w_Race_latest_30 C O hm
        · refine j_aload_n C 0 dX11_latest_32 rfl rfl ?_
          refine j_gS C f_X11_45 n_0 q_0_5 dX11_latest_33 ?_
          refine j_cV C l_X11_194 [] [] (fun _ => none) (fun u5 => u5) (fun u5 => []) n_50 hm (fun l u hu => c_Water_freshenToday hu) rfl (Nat.le_of_ble_eq_true rfl) rfl (Nat.le_of_ble_eq_true rfl) (Nat.le_of_ble_eq_true rfl) (fun _ => rfl) dX11_latest_36 (fun u5 hm => ?_)
          refine j_aload_n C 0 dX11_latest_39 rfl rfl ?_
          refine j_gS C f_X11_54 n_0 q_0_6 dX11_latest_40 ?_
          refine j_iload_n C 1 dX11_latest_43 rfl rfl ?_
          refine j_cV C l_X11_244 [.int v1] [] (fun _ => none) (fun u6 => u6) (fun u6 => []) n_58 hm (fun l u hu => c_Ways_survey hu) rfl (Nat.le_of_ble_eq_true rfl) rfl (Nat.le_of_ble_eq_true rfl) (Nat.le_of_ble_eq_true rfl) (fun _ => rfl) dX11_latest_44 (fun u6 hm => ?_)
          refine j_aload_n C 0 dX11_latest_47 rfl rfl ?_
          refine j_gS C f_X11_54 n_0 q_0_6 dX11_latest_48 ?_
          refine j_iload_n C 2 dX11_latest_51 rfl rfl ?_
          refine j_iload_n C 3 dX11_latest_52 rfl rfl ?_
          refine j_iload C 4 dX11_latest_53 rfl ?_
          refine j_cV C l_X11_258 [.int v2, .int v3, .int v4] [] (fun u7 => some (.int u7)) (fun _ => u6) (fun u7 => [.int u7]) n_58 hm (fun l u hu => c_Ways_lastStart hu) rfl (Nat.le_of_ble_eq_true rfl) rfl (Nat.le_of_ble_eq_true rfl) (Nat.le_of_ble_eq_true rfl) (fun _ => rfl) dX11_latest_55 (fun u7 hm => ?_)
          obtain rfl := Option.some.inj hm
          exact j_iret C O dX11_latest_58
theorem c_Race_latest {G : jG} {l : Launch} {v1 : Int32} {v2 : Int32} {v3 : Int32} {v4 : Int32} {h : Hp} {out : (Int32 × Hp)} (hm : s_Race_latest v1 v2 v3 v4 h = some out) : mt G l yX11_latest cX11_latest 5 (some .int) 7 230 [.ref (G.1 + 0), .int v1, .int v2, .int v3, .int v4] h (some (.int out.1)) out.2 :=
  mt_of (by decide) (Nat.le_of_ble_eq_true rfl) _ rfl (fun X I C O => w_Race_latest C O hm)
