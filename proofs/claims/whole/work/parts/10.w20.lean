noncomputable def s_Ways_has_15 (s0 : Int32) (h : Hp) : Option Int32 :=
  bz s0 <| some (s0)
noncomputable def s_Ways_has (v0 : Int64) (v2 : Int32) (h : Hp) : Option Int32 :=
  if (lg_cmp ((z_lushr v0 v2) &&& ((1 : Int64))) ((0 : Int64))) = 0 then
    s_Ways_has_15 ((0 : Int32)) h
  else
    s_Ways_has_15 ((1 : Int32)) h
def O_Ways_has (G : jG) (X : jX) (h : Hp) (out : Int32) : Prop := jO G X (some .boolean) (some (.int out)) h
theorem w_Ways_has_15 {G : jG} {X : jX} (C : jC G X cX10_has 3 RX10 1 70) {s0 : Int32} {h : Hp} {out : Int32} (O : (O_Ways_has G X h) out) (hm : s_Ways_has_15 s0 h = some out) : J G X 15 [] [.int s0] h := by
  unfold s_Ways_has_15 at hm
  obtain ⟨cz, hm⟩ := bz_inv hm
  obtain rfl := Option.some.inj hm
  exact j_zret C O cz dX10_has_15
theorem w_Ways_has {G : jG} {X : jX} (C : jC G X cX10_has 3 RX10 1 70) {v0 : Int64} {v2 : Int32} {h : Hp} {out : Int32} (O : (O_Ways_has G X h) out) (hm : s_Ways_has v0 v2 h = some out) : J G X 0 [(0, .long v0), (2, .int v2)] [] h := by
  unfold s_Ways_has at hm
  refine j_lload_n C 0 dX10_has_0 rfl rfl ?_
  refine j_iload_n C 1 dX10_has_1 rfl rfl ?_
  refine j_lushr C dX10_has_2 ?_
  refine j_lconst C 1 dX10_has_3 (by decide) ?_
  refine j_land C dX10_has_4 ?_
  refine j_lconst C 0 dX10_has_5 (by decide) ?_
  refine j_lcmp C dX10_has_6 ?_
  refine j_ifeq C 14 dX10_has_7 (by decide) hm (fun hm => ?_) (fun hm => ?_)
  · refine j_iconst C 0 dX10_has_14 (by decide) ?_
    refine j_sub (L' := []) [] rfl ?_
    exact w_Ways_has_15 C O hm
  · refine j_iconst C 1 dX10_has_10 (by decide) ?_
    refine j_goto C 15 dX10_has_11 (by decide) ?_
    refine j_sub (L' := []) [] rfl ?_
    exact w_Ways_has_15 C O hm
theorem c_Ways_has {G : jG} {l : Launch} {v0 : Int64} {v2 : Int32} {h : Hp} {out : Int32} (hm : s_Ways_has v0 v2 h = some out) : mt G l yX10_has cX10_has 3 (some .boolean) 1 70 [.long v0, .int v2] h (some (.int out)) h :=
  mt_of (by decide) (Nat.le_of_ble_eq_true rfl) _ rfl (fun X I C O => w_Ways_has C O hm)
noncomputable def s_Ways_cellBy_48 (s0 : Int32) (h : Hp) : Option Int32 :=
  some (s0)
noncomputable def s_Ways_cellBy_63 (s0 : Int32) (h : Hp) : Option Int32 :=
  some (s0)
noncomputable def s_Ways_cellBy_81 (s0 : Int32) (h : Hp) : Option Int32 :=
  some (s0)
noncomputable def s_Ways_cellBy_96 (s0 : Int32) (h : Hp) : Option Int32 :=
  some (s0)
noncomputable def s_Ways_cellBy (v0 : Int32) (v1 : Int32) (h : Hp) : Option Int32 :=
  if v0 = 1 then
    if ((9 : Int32)) ≤ (z_rem v1 ((10 : Int32))) then
      s_Ways_cellBy_48 ((-1 : Int32)) h
    else
      s_Ways_cellBy_48 (v1 + ((1 : Int32))) h
  else if v0 = 2 then
    if (z_rem v1 ((10 : Int32))) ≤ 0 then
      s_Ways_cellBy_63 ((-1 : Int32)) h
    else
      s_Ways_cellBy_63 (v1 - ((1 : Int32))) h
  else if v0 = 3 then
    if ((50 : Int32)) ≤ (v1 + ((10 : Int32))) then
      s_Ways_cellBy_81 ((-1 : Int32)) h
    else
      s_Ways_cellBy_81 (v1 + ((10 : Int32))) h
  else if v0 = 4 then
    if v1 < ((10 : Int32)) then
      s_Ways_cellBy_96 ((-1 : Int32)) h
    else
      s_Ways_cellBy_96 (v1 - ((10 : Int32))) h
  else 
    some (v1)
def O_Ways_cellBy (G : jG) (X : jX) (h : Hp) (out : Int32) : Prop := jO G X (some .int) (some (.int out)) h
theorem w_Ways_cellBy_48 {G : jG} {X : jX} (C : jC G X cX10_cellBy 2 RX10 1 70) {s0 : Int32} {h : Hp} {out : Int32} (O : (O_Ways_cellBy G X h) out) (hm : s_Ways_cellBy_48 s0 h = some out) : J G X 48 [] [.int s0] h := by
  unfold s_Ways_cellBy_48 at hm
  obtain rfl := Option.some.inj hm
  exact j_iret C O dX10_cellBy_48
theorem w_Ways_cellBy_63 {G : jG} {X : jX} (C : jC G X cX10_cellBy 2 RX10 1 70) {s0 : Int32} {h : Hp} {out : Int32} (O : (O_Ways_cellBy G X h) out) (hm : s_Ways_cellBy_63 s0 h = some out) : J G X 63 [] [.int s0] h := by
  unfold s_Ways_cellBy_63 at hm
  obtain rfl := Option.some.inj hm
  exact j_iret C O dX10_cellBy_63
theorem w_Ways_cellBy_81 {G : jG} {X : jX} (C : jC G X cX10_cellBy 2 RX10 1 70) {s0 : Int32} {h : Hp} {out : Int32} (O : (O_Ways_cellBy G X h) out) (hm : s_Ways_cellBy_81 s0 h = some out) : J G X 81 [] [.int s0] h := by
  unfold s_Ways_cellBy_81 at hm
  obtain rfl := Option.some.inj hm
  exact j_iret C O dX10_cellBy_81
theorem w_Ways_cellBy_96 {G : jG} {X : jX} (C : jC G X cX10_cellBy 2 RX10 1 70) {s0 : Int32} {h : Hp} {out : Int32} (O : (O_Ways_cellBy G X h) out) (hm : s_Ways_cellBy_96 s0 h = some out) : J G X 96 [] [.int s0] h := by
  unfold s_Ways_cellBy_96 at hm
  obtain rfl := Option.some.inj hm
  exact j_iret C O dX10_cellBy_96
theorem w_Ways_cellBy {G : jG} {X : jX} (C : jC G X cX10_cellBy 2 RX10 1 70) {v0 : Int32} {v1 : Int32} {h : Hp} {out : Int32} (O : (O_Ways_cellBy G X h) out) (hm : s_Ways_cellBy v0 v1 h = some out) : J G X 0 [(0, .int v0), (1, .int v1)] [] h := by
  unfold s_Ways_cellBy at hm
  refine j_iload_n C 0 dX10_cellBy_0 rfl rfl ?_
  rcases if_inv hm with ⟨c1, hm⟩ | ⟨c1, hm⟩
  · refine j_swIn C 1 32 dX10_cellBy_1 c1 (by decide) (by decide) rfl (by decide) ?_
    refine j_iload_n C 1 dX10_cellBy_32 rfl rfl ?_
    refine j_bipush C 10 dX10_cellBy_33 (by decide) ?_
    refine j_irem C dX10_cellBy_35 (by decide) ?_
    refine j_bipush C 9 dX10_cellBy_36 (by decide) ?_
    refine j_if_icmpge C 47 dX10_cellBy_38 (by decide) hm (fun hm => ?_) (fun hm => ?_)
    · refine j_iconst C (-1 : Int32) dX10_cellBy_47 (by decide) ?_
      refine j_sub (L' := []) [] rfl ?_
      exact w_Ways_cellBy_48 C O hm
    · refine j_iload_n C 1 dX10_cellBy_41 rfl rfl ?_
      refine j_iconst C 1 dX10_cellBy_42 (by decide) ?_
      refine j_iadd C dX10_cellBy_43 ?_
      refine j_goto C 48 dX10_cellBy_44 (by decide) ?_
      refine j_sub (L' := []) [] rfl ?_
      exact w_Ways_cellBy_48 C O hm
  rcases if_inv hm with ⟨c2, hm⟩ | ⟨c2, hm⟩
  · refine j_swIn C 2 49 dX10_cellBy_1 c2 (by decide) (by decide) rfl (by decide) ?_
    refine j_iload_n C 1 dX10_cellBy_49 rfl rfl ?_
    refine j_bipush C 10 dX10_cellBy_50 (by decide) ?_
    refine j_irem C dX10_cellBy_52 (by decide) ?_
    refine j_ifle C 62 dX10_cellBy_53 (by decide) hm (fun hm => ?_) (fun hm => ?_)
    · refine j_iconst C (-1 : Int32) dX10_cellBy_62 (by decide) ?_
      refine j_sub (L' := []) [] rfl ?_
      exact w_Ways_cellBy_63 C O hm
    · refine j_iload_n C 1 dX10_cellBy_56 rfl rfl ?_
      refine j_iconst C 1 dX10_cellBy_57 (by decide) ?_
      refine j_isub C dX10_cellBy_58 ?_
      refine j_goto C 63 dX10_cellBy_59 (by decide) ?_
      refine j_sub (L' := []) [] rfl ?_
      exact w_Ways_cellBy_63 C O hm
  rcases if_inv hm with ⟨c3, hm⟩ | ⟨c3, hm⟩
  · refine j_swIn C 3 64 dX10_cellBy_1 c3 (by decide) (by decide) rfl (by decide) ?_
    refine j_iload_n C 1 dX10_cellBy_64 rfl rfl ?_
    refine j_bipush C 10 dX10_cellBy_65 (by decide) ?_
    refine j_iadd C dX10_cellBy_67 ?_
    refine j_bipush C 50 dX10_cellBy_68 (by decide) ?_
    refine j_if_icmpge C 80 dX10_cellBy_70 (by decide) hm (fun hm => ?_) (fun hm => ?_)
    · refine j_iconst C (-1 : Int32) dX10_cellBy_80 (by decide) ?_
      refine j_sub (L' := []) [] rfl ?_
      exact w_Ways_cellBy_81 C O hm
    · refine j_iload_n C 1 dX10_cellBy_73 rfl rfl ?_
      refine j_bipush C 10 dX10_cellBy_74 (by decide) ?_
      refine j_iadd C dX10_cellBy_76 ?_
      refine j_goto C 81 dX10_cellBy_77 (by decide) ?_
      refine j_sub (L' := []) [] rfl ?_
      exact w_Ways_cellBy_81 C O hm
  rcases if_inv hm with ⟨c4, hm⟩ | ⟨c4, hm⟩
  · refine j_swIn C 4 82 dX10_cellBy_1 c4 (by decide) (by decide) rfl (by decide) ?_
    refine j_iload_n C 1 dX10_cellBy_82 rfl rfl ?_
    refine j_bipush C 10 dX10_cellBy_83 (by decide) ?_
    refine j_if_icmplt C 95 dX10_cellBy_85 (by decide) hm (fun hm => ?_) (fun hm => ?_)
    · refine j_iconst C (-1 : Int32) dX10_cellBy_95 (by decide) ?_
      refine j_sub (L' := []) [] rfl ?_
      exact w_Ways_cellBy_96 C O hm
    · refine j_iload_n C 1 dX10_cellBy_88 rfl rfl ?_
      refine j_bipush C 10 dX10_cellBy_89 (by decide) ?_
      refine j_isub C dX10_cellBy_91 ?_
      refine j_goto C 96 dX10_cellBy_92 (by decide) ?_
      refine j_sub (L' := []) [] rfl ?_
      exact w_Ways_cellBy_96 C O hm
  refine j_tableOut C 97 dX10_cellBy_1 (by have e0 := sw_ne (n := 1) c1 (by decide); have e1 := sw_ne (n := 2) c2 (by decide); have e2 := sw_ne (n := 3) c3 (by decide); have e3 := sw_ne (n := 4) c4 (by decide); omega) (by decide) ?_
  refine j_iload_n C 1 dX10_cellBy_97 rfl rfl ?_
  obtain rfl := Option.some.inj hm
  exact j_iret C O dX10_cellBy_98
theorem c_Ways_cellBy {G : jG} {l : Launch} {v0 : Int32} {v1 : Int32} {h : Hp} {out : Int32} (hm : s_Ways_cellBy v0 v1 h = some out) : mt G l yX10_cellBy cX10_cellBy 2 (some .int) 1 70 [.int v0, .int v1] h (some (.int out)) h :=
  mt_of (by decide) (Nat.le_of_ble_eq_true rfl) _ rfl (fun X I C O => w_Ways_cellBy C O hm)
noncomputable def s_Ways_reached (v1 : Int64) (v3 : Int32) (h : Hp) : Option Int64 :=
  ib v3 144 <| ib v3 144 <| ib v3 144 <| lt (((((v1 &&& (hL h 63 (ix v3))) ||| (z_lshl (v1 &&& (hL h 63 (ix v3))) ((10 : Int32)))) ||| (z_lushr (v1 &&& (hL h 63 (ix v3))) ((10 : Int32)))) ||| (z_lshl (v1 &&& (hL h 64 (ix v3))) ((1 : Int32)))) ||| (z_lushr (v1 &&& (hL h 65 (ix v3))) ((1 : Int32)))) fun x1 => ib (v3 + ((1 : Int32))) 144 <| some ((x1 &&& ((1125899906842623 : Int64))) &&& (hL h 62 (ix (v3 + ((1 : Int32))))))
def O_Ways_reached (G : jG) (X : jX) (h : Hp) (out : Int64) : Prop := jO G X (some .long) (some (.long out)) h
theorem w_Ways_reached {G : jG} {X : jX} (C : jC G X cX10_reached 8 RX10 1 70) {v1 : Int64} {v3 : Int32} {h : Hp} {out : Int64} (O : (O_Ways_reached G X h) out) (hm : s_Ways_reached v1 v3 h = some out) : J G X 0 [(0, .ref (G.1 + 58)), (1, .long v1), (3, .int v3)] [] h := by
  unfold s_Ways_reached at hm
  refine j_lload_n C 1 dX10_reached_0 rfl rfl ?_
  refine j_aload_n C 0 dX10_reached_1 rfl rfl ?_
  refine j_gS C f_X10_25 n_58 q_58_6 dX10_reached_2 ?_
  refine j_iload_n C 2 dX10_reached_5 rfl rfl ?_
  refine j_lald C n_63 hm dX10_reached_6 (fun hm => ?_)
  refine j_land C dX10_reached_7 ?_
  refine j_lstore C [(4, .long (v1 &&& (hL h 63 (ix v3)))), (0, .ref (G.1 + 58)), (1, .long v1), (3, .int v3)] dX10_reached_8 (by decide) rfl ?_
  refine j_lload C 0 dX10_reached_10 rfl ?_
  refine j_lload C 0 dX10_reached_12 rfl ?_
  refine j_bipush C 10 dX10_reached_14 (by decide) ?_
  refine j_lshl C dX10_reached_16 ?_
  refine j_lor C dX10_reached_17 ?_
  refine j_lload C 0 dX10_reached_18 rfl ?_
  refine j_bipush C 10 dX10_reached_20 (by decide) ?_
  refine j_lushr C dX10_reached_22 ?_
  refine j_lor C dX10_reached_23 ?_
  refine j_lload_n C 2 dX10_reached_24 rfl rfl ?_
  refine j_aload_n C 1 dX10_reached_25 rfl rfl ?_
  refine j_gS C f_X10_28 n_58 q_58_7 dX10_reached_26 ?_
  refine j_iload_n C 3 dX10_reached_29 rfl rfl ?_
  refine j_lald C n_64 hm dX10_reached_30 (fun hm => ?_)
  refine j_land C dX10_reached_31 ?_
  refine j_iconst C 1 dX10_reached_32 (by decide) ?_
  refine j_lshl C dX10_reached_33 ?_
  refine j_lor C dX10_reached_34 ?_
  refine j_lload_n C 2 dX10_reached_35 rfl rfl ?_
  refine j_aload_n C 1 dX10_reached_36 rfl rfl ?_
  refine j_gS C f_X10_31 n_58 q_58_8 dX10_reached_37 ?_
  refine j_iload_n C 3 dX10_reached_40 rfl rfl ?_
  refine j_lald C n_65 hm dX10_reached_41 (fun hm => ?_)
  refine j_land C dX10_reached_42 ?_
  refine j_iconst C 1 dX10_reached_43 (by decide) ?_
  refine j_lushr C dX10_reached_44 ?_
  refine j_lor C dX10_reached_45 ?_
  refine j_nmL hm (fun x1 hm => ?_)
  refine j_lstore C [(6, .long x1), (4, .long (v1 &&& (hL h 63 (ix v3)))), (0, .ref (G.1 + 58)), (1, .long v1), (3, .int v3)] dX10_reached_46 (by decide) rfl ?_
  refine j_lload C 0 dX10_reached_48 rfl ?_
  refine j_ldc2 C wd_1051 dX10_reached_50 ?_
  refine j_land C dX10_reached_53 ?_
  refine j_aload_n C 2 dX10_reached_54 rfl rfl ?_
  refine j_gS C f_X10_22 n_58 q_58_5 dX10_reached_55 ?_
  refine j_iload_n C 4 dX10_reached_58 rfl rfl ?_
  refine j_iconst C 1 dX10_reached_59 (by decide) ?_
  refine j_iadd C dX10_reached_60 ?_
  refine j_lald C n_62 hm dX10_reached_61 (fun hm => ?_)
  refine j_land C dX10_reached_62 ?_
  obtain rfl := Option.some.inj hm
  exact j_lret C O dX10_reached_63
theorem c_Ways_reached {G : jG} {l : Launch} {v1 : Int64} {v3 : Int32} {h : Hp} {out : Int64} (hm : s_Ways_reached v1 v3 h = some out) : mt G l yX10_reached cX10_reached 8 (some .long) 1 70 [.ref (G.1 + 58), .long v1, .int v3] h (some (.long out)) h :=
  mt_of (by decide) (Nat.le_of_ble_eq_true rfl) _ rfl (fun X I C O => w_Ways_reached C O hm)
noncomputable def s_Ways_whiteAt (v1 : Int32) (v2 : Int32) (h : Hp) : Option Int32 :=
  ib v1 50 <| ib ((v2 * ((6 : Int32))) + (hI h 5 (ix v1))) 864 <| some (hI h 60 (ix ((v2 * ((6 : Int32))) + (hI h 5 (ix v1)))))
def O_Ways_whiteAt (G : jG) (X : jX) (h : Hp) (out : Int32) : Prop := jO G X (some .int) (some (.int out)) h
theorem w_Ways_whiteAt {G : jG} {X : jX} (C : jC G X cX10_whiteAt 3 RX10 1 70) {v1 : Int32} {v2 : Int32} {h : Hp} {out : Int32} (O : (O_Ways_whiteAt G X h) out) (hm : s_Ways_whiteAt v1 v2 h = some out) : J G X 0 [(0, .ref (G.1 + 58)), (1, .int v1), (2, .int v2)] [] h := by
  unfold s_Ways_whiteAt at hm
  refine j_aload_n C 0 dX10_whiteAt_0 rfl rfl ?_
  refine j_gS C f_X10_15 n_58 q_58_3 dX10_whiteAt_1 ?_
  refine j_iload_n C 2 dX10_whiteAt_4 rfl rfl ?_
  refine j_bipush C 6 dX10_whiteAt_5 (by decide) ?_
  refine j_imul C dX10_whiteAt_7 ?_
  refine j_aload_n C 0 dX10_whiteAt_8 rfl rfl ?_
  refine j_gS C f_X10_47 n_58 q_58_0 dX10_whiteAt_9 ?_
  refine j_gS C f_X10_64 n_1 q_1_3 dX10_whiteAt_12 ?_
  refine j_iload_n C 1 dX10_whiteAt_15 rfl rfl ?_
  refine j_iald C n_5 hm dX10_whiteAt_16 (fun hm => ?_)
  refine j_iadd C dX10_whiteAt_17 ?_
  refine j_iald C n_60 hm dX10_whiteAt_18 (fun hm => ?_)
  obtain rfl := Option.some.inj hm
  exact j_iret C O dX10_whiteAt_19
theorem c_Ways_whiteAt {G : jG} {l : Launch} {v1 : Int32} {v2 : Int32} {h : Hp} {out : Int32} (hm : s_Ways_whiteAt v1 v2 h = some out) : mt G l yX10_whiteAt cX10_whiteAt 3 (some .int) 1 70 [.ref (G.1 + 58), .int v1, .int v2] h (some (.int out)) h :=
  mt_of (by decide) (Nat.le_of_ble_eq_true rfl) _ rfl (fun X I C O => w_Ways_whiteAt C O hm)
noncomputable def s_Ways_offer_67 (v1 : Int32) (v2 : Int32) (v3 : Int32) (v4 : Nat) (v5 : Int64) (v7 : Int32) (h : Hp) : Option ((Int32 × Int32 × Int32 × Nat × Int64 × Int32 × Hp) ⊕ Hp) :=
  some (.inl (v1, v2, v3, v4, v5, (v7 + (1 : Int32)), h))
noncomputable def s_Ways_offer_13 (v1 : Int32) (v2 : Int32) (v3 : Int32) (v4 : Nat) (v5 : Int64) (v7 : Int32) (h : Hp) : Option ((Int32 × Int32 × Int32 × Nat × Int64 × Int32 × Hp) ⊕ Hp) :=
  if ((4 : Int32)) < v7 then
    some (.inr h)
  else
    (s_Ways_cellBy v7 v2 h).bind fun u1 => if u1 = ((-1 : Int32)) then
      s_Ways_offer_67 v1 v2 v3 v4 v5 v7 h
    else
      (s_Ways_has v5 u1 h).bind fun u2 => if u2 = 0 then
        s_Ways_offer_67 v1 v2 v3 v4 v5 v7 h
      else
        ak h v4 0 <| ib u1 (ln h v4) <| (s_Ways_whiteAt u1 (v3 + ((1 : Int32))) h).bind fun u4 => ak h v4 0 <| ib u1 (ln h v4) <| s_Ways_offer_67 v1 v2 v3 v4 v5 v7 (sI h v4 (ix u1) (z_min (hI h v4 (ix u1)) (v1 + u4)))
noncomputable def s_Ways_offer (v1 : Int32) (v2 : Int32) (v3 : Int32) (v4 : Nat) (h : Hp) : Option Hp :=
  (s_Ways_reached (z_lshl ((1 : Int64)) v2) v3 h).bind fun u1 => lp (fun q => s_Ways_offer_13 q.1 q.2.1 q.2.2.1 q.2.2.2.1 q.2.2.2.2.1 q.2.2.2.2.2.1 q.2.2.2.2.2.2) (v1, v2, v3, v4, u1, ((0 : Int32)), h)
def O_Ways_offer (G : jG) (X : jX) (out : Hp) : Prop := jO G X (none) none out
def P_Ways_offer_13 (G : jG) (X : jX) (q : Int32 × Int32 × Int32 × Nat × Int64 × Int32 × Hp) : Prop := J G X 13 [(0, .ref (G.1 + 58)), (1, .int q.1), (2, .int q.2.1), (3, .int q.2.2.1), (4, .ref (G.1 + q.2.2.2.1)), (5, .long q.2.2.2.2.1), (7, .int q.2.2.2.2.2.1)] [] q.2.2.2.2.2.2
def O_Ways_offer_13 (G : jG) (X : jX) (t : ((Int32 × Int32 × Int32 × Nat × Int64 × Int32 × Hp) ⊕ Hp)) : Prop := Sum.elim (P_Ways_offer_13 G X) (O_Ways_offer G X) t
theorem w_Ways_offer_67 {G : jG} {X : jX} (C : jC G X cX10_offer 9 RX10 2 97) {v1 : Int32} {v2 : Int32} {v3 : Int32} {v4 : Nat} {v5 : Int64} {v7 : Int32} {h : Hp} {out : ((Int32 × Int32 × Int32 × Nat × Int64 × Int32 × Hp) ⊕ Hp)} (O : (O_Ways_offer_13 G X) out) (hm : s_Ways_offer_67 v1 v2 v3 v4 v5 v7 h = some out) : J G X 67 [(0, .ref (G.1 + 58)), (1, .int v1), (2, .int v2), (3, .int v3), (4, .ref (G.1 + v4)), (5, .long v5), (7, .int v7)] [] h := by
  unfold s_Ways_offer_67 at hm
  refine j_iinc C 6 [(7, .int (v7 + (1 : Int32))), (0, .ref (G.1 + 58)), (1, .int v1), (2, .int v2), (3, .int v3), (4, .ref (G.1 + v4)), (5, .long v5)] dX10_offer_67 rfl (add_lit (by decide)) (by decide) rfl ?_
  refine j_goto C 13 dX10_offer_70 (by decide) ?_
  obtain rfl := Option.some.inj hm
  refine j_sub (L' := [(0, .ref (G.1 + 58)), (1, .int v1), (2, .int v2), (3, .int v3), (4, .ref (G.1 + v4)), (5, .long v5), (7, .int (v7 + (1 : Int32)))]) [1, 2, 3, 4, 5, 6, 0] rfl ?_
  exact O
theorem w_Ways_offer_13 {G : jG} {X : jX} (C : jC G X cX10_offer 9 RX10 2 97) {v1 : Int32} {v2 : Int32} {v3 : Int32} {v4 : Nat} {v5 : Int64} {v7 : Int32} {h : Hp} {out : ((Int32 × Int32 × Int32 × Nat × Int64 × Int32 × Hp) ⊕ Hp)} (O : (O_Ways_offer_13 G X) out) (hm : s_Ways_offer_13 v1 v2 v3 v4 v5 v7 h = some out) : J G X 13 [(0, .ref (G.1 + 58)), (1, .int v1), (2, .int v2), (3, .int v3), (4, .ref (G.1 + v4)), (5, .long v5), (7, .int v7)] [] h := by
  unfold s_Ways_offer_13 at hm
  refine j_iload C 6 dX10_offer_13 rfl ?_
  refine j_iconst C 4 dX10_offer_15 (by decide) ?_
  refine j_if_icmpgt C 73 dX10_offer_16 (by decide) hm (fun hm => ?_) (fun hm => ?_)
  · obtain rfl := Option.some.inj hm
    exact j_vret C O dX10_offer_73
  · refine j_iload C 6 dX10_offer_19 rfl ?_
    refine j_iload_n C 2 dX10_offer_21 rfl rfl ?_
    refine j_cS C l_X10_139 [.int v7, .int v2] [] (fun u1 => some (.int u1)) (fun _ => h) (fun u1 => [.int u1]) hm (fun l u hu => c_Ways_cellBy hu) rfl (Nat.le_of_ble_eq_true rfl) rfl (Nat.le_of_ble_eq_true rfl) (Nat.le_of_ble_eq_true rfl) (fun _ => rfl) dX10_offer_22 (fun u1 hm => ?_)
    refine j_istore C [(8, .int u1), (0, .ref (G.1 + 58)), (1, .int v1), (2, .int v2), (3, .int v3), (4, .ref (G.1 + v4)), (5, .long v5), (7, .int v7)] dX10_offer_25 (by decide) rfl ?_
    refine j_iload C 0 dX10_offer_27 rfl ?_
    refine j_iconst C (-1 : Int32) dX10_offer_29 (by decide) ?_
    refine j_if_icmpeq C 67 dX10_offer_30 (by decide) hm (fun hm => ?_) (fun hm => ?_)
    · refine j_sub (L' := [(0, .ref (G.1 + 58)), (1, .int v1), (2, .int v2), (3, .int v3), (4, .ref (G.1 + v4)), (5, .long v5), (7, .int v7)]) [1, 2, 3, 4, 5, 6, 7] rfl ?_
      exact w_Ways_offer_67 C O hm
    · refine j_lload C 6 dX10_offer_33 rfl ?_
      refine j_iload C 0 dX10_offer_35 rfl ?_
      refine j_cS C l_X10_103 [.long v5, .int u1] [] (fun u2 => some (.int u2)) (fun _ => h) (fun u2 => [.int u2]) hm (fun l u hu => c_Ways_has hu) rfl (Nat.le_of_ble_eq_true rfl) rfl (Nat.le_of_ble_eq_true rfl) (Nat.le_of_ble_eq_true rfl) (fun _ => rfl) dX10_offer_37 (fun u2 hm => ?_)
      refine j_ifeq C 67 dX10_offer_40 (by decide) hm (fun hm => ?_) (fun hm => ?_)
      · refine j_sub (L' := [(0, .ref (G.1 + 58)), (1, .int v1), (2, .int v2), (3, .int v3), (4, .ref (G.1 + v4)), (5, .long v5), (7, .int v7)]) [1, 2, 3, 4, 5, 6, 7] rfl ?_
        exact w_Ways_offer_67 C O hm
      · refine j_aload C 5 dX10_offer_43 rfl ?_
        refine j_iload C 0 dX10_offer_45 rfl ?_
        refine j_aload C 5 dX10_offer_47 rfl ?_
        refine j_iload C 0 dX10_offer_49 rfl ?_
        obtain ⟨c3, hm⟩ := ak_inv hm
        refine j_iald C c3 hm dX10_offer_51 (fun hm => ?_)
        refine j_iload_n C 2 dX10_offer_52 rfl rfl ?_
        refine j_aload_n C 1 dX10_offer_53 rfl rfl ?_
        refine j_iload C 0 dX10_offer_54 rfl ?_
        refine j_iload_n C 4 dX10_offer_56 rfl rfl ?_
        refine j_iconst C 1 dX10_offer_57 (by decide) ?_
        refine j_iadd C dX10_offer_58 ?_
        refine j_cV C l_X10_129 [.int u1, .int (v3 + ((1 : Int32)))] [.int v1, .int (hI h v4 (ix u1)), .int u1, .ref (G.1 + v4)] (fun u4 => some (.int u4)) (fun _ => h) (fun u4 => [.int u4, .int v1, .int (hI h v4 (ix u1)), .int u1, .ref (G.1 + v4)]) n_58 hm (fun l u hu => c_Ways_whiteAt hu) rfl (Nat.le_of_ble_eq_true rfl) rfl (Nat.le_of_ble_eq_true rfl) (Nat.le_of_ble_eq_true rfl) (fun _ => rfl) dX10_offer_59 (fun u4 hm => ?_)
        refine j_iadd C dX10_offer_62 ?_
        refine j_mmin C wd_1090 wd_789 wd_126 wd_790 (Nat.le_of_ble_eq_true rfl) (Nat.le_of_ble_eq_true rfl) dX10_offer_63 ?_
        obtain ⟨c5, hm⟩ := ak_inv hm
        refine j_iast C c5 hm dX10_offer_66 (fun hm => ?_)
        refine j_sub (L' := [(0, .ref (G.1 + 58)), (1, .int v1), (2, .int v2), (3, .int v3), (4, .ref (G.1 + v4)), (5, .long v5), (7, .int v7)]) [1, 2, 3, 4, 5, 6, 7] rfl ?_
        exact w_Ways_offer_67 C O hm
theorem k_Ways_offer_13 {G : jG} {X : jX} (C : jC G X cX10_offer 9 RX10 2 97) {v1 : Int32} {v2 : Int32} {v3 : Int32} {v4 : Nat} {v5 : Int64} {v7 : Int32} {h : Hp} {out : Hp} (O : (O_Ways_offer G X) out) (hm : lp (fun q => s_Ways_offer_13 q.1 q.2.1 q.2.2.1 q.2.2.2.1 q.2.2.2.2.1 q.2.2.2.2.2.1 q.2.2.2.2.2.2) (v1, v2, v3, v4, v5, v7, h) = some out) : J G X 13 [(0, .ref (G.1 + 58)), (1, .int v1), (2, .int v2), (3, .int v3), (4, .ref (G.1 + v4)), (5, .long v5), (7, .int v7)] [] h :=
  lp_ok (P := P_Ways_offer_13 G X) (O := (O_Ways_offer G X)) (fun q r hm O => w_Ways_offer_13 C O hm) hm O
theorem w_Ways_offer {G : jG} {X : jX} (C : jC G X cX10_offer 9 RX10 2 97) {v1 : Int32} {v2 : Int32} {v3 : Int32} {v4 : Nat} {h : Hp} {out : Hp} (O : (O_Ways_offer G X) out) (hm : s_Ways_offer v1 v2 v3 v4 h = some out) : J G X 0 [(0, .ref (G.1 + 58)), (1, .int v1), (2, .int v2), (3, .int v3), (4, .ref (G.1 + v4))] [] h := by
  unfold s_Ways_offer at hm
  refine j_aload_n C 0 dX10_offer_0 rfl rfl ?_
  refine j_lconst C 1 dX10_offer_1 (by decide) ?_
  refine j_iload_n C 2 dX10_offer_2 rfl rfl ?_
  refine j_lshl C dX10_offer_3 ?_
  refine j_iload_n C 3 dX10_offer_4 rfl rfl ?_
  refine j_cV C l_X10_107 [.long (z_lshl ((1 : Int64)) v2), .int v3] [] (fun u1 => some (.long u1)) (fun _ => h) (fun u1 => [.long u1]) n_58 hm (fun l u hu => c_Ways_reached hu) rfl (Nat.le_of_ble_eq_true rfl) rfl (Nat.le_of_ble_eq_true rfl) (Nat.le_of_ble_eq_true rfl) (fun _ => rfl) dX10_offer_5 (fun u1 hm => ?_)
  refine j_lstore C [(5, .long u1), (0, .ref (G.1 + 58)), (1, .int v1), (2, .int v2), (3, .int v3), (4, .ref (G.1 + v4))] dX10_offer_8 (by decide) rfl ?_
  refine j_iconst C 0 dX10_offer_10 (by decide) ?_
  refine j_istore C [(7, .int ((0 : Int32))), (5, .long u1), (0, .ref (G.1 + 58)), (1, .int v1), (2, .int v2), (3, .int v3), (4, .ref (G.1 + v4))] dX10_offer_11 (by decide) rfl ?_
  refine j_sub (L' := [(0, .ref (G.1 + 58)), (1, .int v1), (2, .int v2), (3, .int v3), (4, .ref (G.1 + v4)), (5, .long u1), (7, .int ((0 : Int32)))]) [2, 3, 4, 5, 6, 1, 0] rfl ?_
  exact k_Ways_offer_13 C O hm
theorem c_Ways_offer {G : jG} {l : Launch} {v1 : Int32} {v2 : Int32} {v3 : Int32} {v4 : Nat} {h : Hp} {out : Hp} (hm : s_Ways_offer v1 v2 v3 v4 h = some out) : mt G l yX10_offer cX10_offer 9 (none) 2 97 [.ref (G.1 + 58), .int v1, .int v2, .int v3, .ref (G.1 + v4)] h none out :=
  mt_of (by decide) (Nat.le_of_ble_eq_true rfl) _ rfl (fun X I C O => w_Ways_offer C O hm)
noncomputable def s_Ways_leastWhite_103 (v3 : Int32) (v4 : Nat) (v5 : Nat) (v6 : Int32) (v7 : Int32) (v8 : Int32) (h : Hp) : Option ((Int32 × Nat × Nat × Int32 × Int32 × Int32 × Hp) ⊕ ((Int32 × Nat × Nat × Int32 × Int32 × Hp) ⊕ (Int32 × Hp))) :=
  some (.inl (v3, v4, v5, v6, v7, (v8 + (1 : Int32)), h))
noncomputable def s_Ways_leastWhite_71 (v3 : Int32) (v4 : Nat) (v5 : Nat) (v6 : Int32) (v7 : Int32) (v8 : Int32) (h : Hp) : Option ((Int32 × Nat × Nat × Int32 × Int32 × Int32 × Hp) ⊕ ((Int32 × Nat × Nat × Int32 × Int32 × Hp) ⊕ (Int32 × Hp))) :=
  if ((50 : Int32)) ≤ v8 then
    ak h v5 0 <| ib v3 (ln h v5) <| some (.inr (.inl (v3, v5, v4, (z_min v6 (hI h v5 (ix v3))), (v7 + (1 : Int32)), h)))
  else
    ak h v4 0 <| ib v8 (ln h v4) <| if ((1000000 : Int32)) ≤ (hI h v4 (ix v8)) then
      s_Ways_leastWhite_103 v3 v4 v5 v6 v7 v8 h
    else
      ak h v4 0 <| ib v8 (ln h v4) <| (s_Ways_offer (hI h v4 (ix v8)) v8 v7 v5 h).bind fun u4 => s_Ways_leastWhite_103 v3 v4 v5 v6 v7 v8 u4
noncomputable def s_Ways_leastWhite_151 (s0 : Int32) (h : Hp) : Option (Int32 × Hp) :=
  some (s0, h)
noncomputable def s_Ways_leastWhite_53 (v3 : Int32) (v4 : Nat) (v5 : Nat) (v6 : Int32) (v7 : Int32) (h : Hp) : Option ((Int32 × Nat × Nat × Int32 × Int32 × Hp) ⊕ (Int32 × Hp)) :=
  if ((143 : Int32)) ≤ v7 then
    if ((1000000 : Int32)) ≤ v6 then
      inr (s_Ways_leastWhite_151 ((-1 : Int32)) h)
    else
      inr (s_Ways_leastWhite_151 v6 h)
  else
    (s_Arr_fillI v5 ((1000000 : Int32)) h).bind fun u1 => lp (fun q => s_Ways_leastWhite_71 q.1 q.2.1 q.2.2.1 q.2.2.2.1 q.2.2.2.2.1 q.2.2.2.2.2.1 q.2.2.2.2.2.2) (v3, v4, v5, v6, v7, ((0 : Int32)), u1)
noncomputable def s_Ways_leastWhite (v1 : Int32) (v2 : Int32) (v3 : Int32) (h : Hp) : Option (Int32 × Hp) :=
  ib v1 144 <| (s_Ways_has (hL h 62 (ix v1)) v2 h).bind fun u1 => if u1 = 0 then
    some ((-1 : Int32), h)
  else
    (s_Arr_fillI 67 ((1000000 : Int32)) h).bind fun u2 => (s_Ways_whiteAt v2 v1 u2).bind fun u3 => ib v2 50 <| lt (sI u2 67 (ix v2) u3) fun h4 => ib v3 50 <| lp (fun q => s_Ways_leastWhite_53 q.1 q.2.1 q.2.2.1 q.2.2.2.1 q.2.2.2.2.1 q.2.2.2.2.2) (v3, 67, 68, (hI h4 67 (ix v3)), v1, h4)
def O_Ways_leastWhite (G : jG) (X : jX) (out : (Int32 × Hp)) : Prop := jO G X (some .int) (some (.int out.1)) out.2
def P_Ways_leastWhite_53 (G : jG) (X : jX) (q : Int32 × Nat × Nat × Int32 × Int32 × Hp) : Prop := J G X 53 [(0, .ref (G.1 + 58)), (3, .int q.1), (4, .ref (G.1 + q.2.1)), (5, .ref (G.1 + q.2.2.1)), (6, .int q.2.2.2.1), (7, .int q.2.2.2.2.1)] [] q.2.2.2.2.2
def O_Ways_leastWhite_53 (G : jG) (X : jX) (t : ((Int32 × Nat × Nat × Int32 × Int32 × Hp) ⊕ (Int32 × Hp))) : Prop := Sum.elim (P_Ways_leastWhite_53 G X) (O_Ways_leastWhite G X) t
def P_Ways_leastWhite_71 (G : jG) (X : jX) (q : Int32 × Nat × Nat × Int32 × Int32 × Int32 × Hp) : Prop := J G X 71 [(0, .ref (G.1 + 58)), (3, .int q.1), (4, .ref (G.1 + q.2.1)), (5, .ref (G.1 + q.2.2.1)), (6, .int q.2.2.2.1), (7, .int q.2.2.2.2.1), (8, .int q.2.2.2.2.2.1)] [] q.2.2.2.2.2.2
def O_Ways_leastWhite_71 (G : jG) (X : jX) (t : ((Int32 × Nat × Nat × Int32 × Int32 × Int32 × Hp) ⊕ ((Int32 × Nat × Nat × Int32 × Int32 × Hp) ⊕ (Int32 × Hp)))) : Prop := Sum.elim (P_Ways_leastWhite_71 G X) (O_Ways_leastWhite_53 G X) t
theorem w_Ways_leastWhite_103 {G : jG} {X : jX} (C : jC G X cX10_leastWhite 9 RX10 3 125) {v3 : Int32} {v4 : Nat} {v5 : Nat} {v6 : Int32} {v7 : Int32} {v8 : Int32} {h : Hp} {out : ((Int32 × Nat × Nat × Int32 × Int32 × Int32 × Hp) ⊕ ((Int32 × Nat × Nat × Int32 × Int32 × Hp) ⊕ (Int32 × Hp)))} (O : (O_Ways_leastWhite_71 G X) out) (hm : s_Ways_leastWhite_103 v3 v4 v5 v6 v7 v8 h = some out) : J G X 103 [(0, .ref (G.1 + 58)), (3, .int v3), (4, .ref (G.1 + v4)), (5, .ref (G.1 + v5)), (6, .int v6), (7, .int v7), (8, .int v8)] [] h := by
  unfold s_Ways_leastWhite_103 at hm
  refine j_iinc C 6 [(8, .int (v8 + (1 : Int32))), (0, .ref (G.1 + 58)), (3, .int v3), (4, .ref (G.1 + v4)), (5, .ref (G.1 + v5)), (6, .int v6), (7, .int v7)] dX10_leastWhite_103 rfl (add_lit (by decide)) (by decide) rfl ?_
  refine j_goto C 71 dX10_leastWhite_106 (by decide) ?_
  obtain rfl := Option.some.inj hm
  refine j_sub (L' := [(0, .ref (G.1 + 58)), (3, .int v3), (4, .ref (G.1 + v4)), (5, .ref (G.1 + v5)), (6, .int v6), (7, .int v7), (8, .int (v8 + (1 : Int32)))]) [1, 2, 3, 4, 5, 6, 0] rfl ?_
  exact O
theorem w_Ways_leastWhite_71 {G : jG} {X : jX} (C : jC G X cX10_leastWhite 9 RX10 3 125) {v3 : Int32} {v4 : Nat} {v5 : Nat} {v6 : Int32} {v7 : Int32} {v8 : Int32} {h : Hp} {out : ((Int32 × Nat × Nat × Int32 × Int32 × Int32 × Hp) ⊕ ((Int32 × Nat × Nat × Int32 × Int32 × Hp) ⊕ (Int32 × Hp)))} (O : (O_Ways_leastWhite_71 G X) out) (hm : s_Ways_leastWhite_71 v3 v4 v5 v6 v7 v8 h = some out) : J G X 71 [(0, .ref (G.1 + 58)), (3, .int v3), (4, .ref (G.1 + v4)), (5, .ref (G.1 + v5)), (6, .int v6), (7, .int v7), (8, .int v8)] [] h := by
  unfold s_Ways_leastWhite_71 at hm
  refine j_iload C 6 dX10_leastWhite_71 rfl ?_
  refine j_bipush C 50 dX10_leastWhite_73 (by decide) ?_
  refine j_if_icmpge C 109 dX10_leastWhite_75 (by decide) hm (fun hm => ?_) (fun hm => ?_)
  · refine j_iload C 4 dX10_leastWhite_109 rfl ?_
    refine j_aload C 3 dX10_leastWhite_111 rfl ?_
    refine j_iload_n C 1 dX10_leastWhite_113 rfl rfl ?_
    obtain ⟨c1, hm⟩ := ak_inv hm
    refine j_iald C c1 hm dX10_leastWhite_114 (fun hm => ?_)
    refine j_mmin C wd_1090 wd_789 wd_126 wd_790 (Nat.le_of_ble_eq_true rfl) (Nat.le_of_ble_eq_true rfl) dX10_leastWhite_115 ?_
    refine j_istore C [(6, .int (z_min v6 (hI h v5 (ix v3)))), (0, .ref (G.1 + 58)), (3, .int v3), (4, .ref (G.1 + v4)), (5, .ref (G.1 + v5)), (7, .int v7), (8, .int v8)] dX10_leastWhite_118 (by decide) rfl ?_
    refine j_aload C 3 dX10_leastWhite_120 rfl ?_
    refine j_astore C [(8, .ref (G.1 + v4)), (6, .int (z_min v6 (hI h v5 (ix v3)))), (0, .ref (G.1 + 58)), (3, .int v3), (4, .ref (G.1 + v4)), (5, .ref (G.1 + v5)), (7, .int v7)] dX10_leastWhite_122 (by decide) rfl ?_
    refine j_aload C 5 dX10_leastWhite_124 rfl ?_
    refine j_astore C [(4, .ref (G.1 + v5)), (8, .ref (G.1 + v4)), (6, .int (z_min v6 (hI h v5 (ix v3)))), (0, .ref (G.1 + 58)), (3, .int v3), (5, .ref (G.1 + v5)), (7, .int v7)] dX10_leastWhite_126 (by decide) rfl ?_
    refine j_aload C 1 dX10_leastWhite_128 rfl ?_
    refine j_astore C [(5, .ref (G.1 + v4)), (4, .ref (G.1 + v5)), (8, .ref (G.1 + v4)), (6, .int (z_min v6 (hI h v5 (ix v3)))), (0, .ref (G.1 + 58)), (3, .int v3), (7, .int v7)] dX10_leastWhite_130 (by decide) rfl ?_
    refine j_iinc C 6 [(7, .int (v7 + (1 : Int32))), (5, .ref (G.1 + v4)), (4, .ref (G.1 + v5)), (8, .ref (G.1 + v4)), (6, .int (z_min v6 (hI h v5 (ix v3)))), (0, .ref (G.1 + 58)), (3, .int v3)] dX10_leastWhite_132 rfl (add_lit (by decide)) (by decide) rfl ?_
    refine j_goto C 53 dX10_leastWhite_135 (by decide) ?_
    obtain rfl := Option.some.inj hm
    refine j_sub (L' := [(0, .ref (G.1 + 58)), (3, .int v3), (4, .ref (G.1 + v5)), (5, .ref (G.1 + v4)), (6, .int (z_min v6 (hI h v5 (ix v3)))), (7, .int (v7 + (1 : Int32)))]) [5, 6, 2, 1, 4, 0] rfl ?_
    exact O
  · refine j_aload C 2 dX10_leastWhite_78 rfl ?_
    refine j_iload C 6 dX10_leastWhite_80 rfl ?_
    obtain ⟨c2, hm⟩ := ak_inv hm
    refine j_iald C c2 hm dX10_leastWhite_82 (fun hm => ?_)
    refine j_ldc C wd_1077 dX10_leastWhite_83 ?_
    refine j_if_icmpge C 103 dX10_leastWhite_85 (by decide) hm (fun hm => ?_) (fun hm => ?_)
    · refine j_sub (L' := [(0, .ref (G.1 + 58)), (3, .int v3), (4, .ref (G.1 + v4)), (5, .ref (G.1 + v5)), (6, .int v6), (7, .int v7), (8, .int v8)]) [0, 1, 2, 3, 4, 5, 6] rfl ?_
      exact w_Ways_leastWhite_103 C O hm
    · refine j_aload_n C 0 dX10_leastWhite_88 rfl rfl ?_
      refine j_aload C 2 dX10_leastWhite_89 rfl ?_
      refine j_iload C 6 dX10_leastWhite_91 rfl ?_
      obtain ⟨c3, hm⟩ := ak_inv hm
      refine j_iald C c3 hm dX10_leastWhite_93 (fun hm => ?_)
      refine j_iload C 6 dX10_leastWhite_94 rfl ?_
      refine j_iload C 5 dX10_leastWhite_96 rfl ?_
      refine j_aload C 3 dX10_leastWhite_98 rfl ?_
      refine j_cV C l_X10_132 [.int (hI h v4 (ix v8)), .int v8, .int v7, .ref (G.1 + v5)] [] (fun _ => none) (fun u4 => u4) (fun u4 => []) n_58 hm (fun l u hu => c_Ways_offer hu) rfl (Nat.le_of_ble_eq_true rfl) rfl (Nat.le_of_ble_eq_true rfl) (Nat.le_of_ble_eq_true rfl) (fun _ => rfl) dX10_leastWhite_100 (fun u4 hm => ?_)
      refine j_sub (L' := [(0, .ref (G.1 + 58)), (3, .int v3), (4, .ref (G.1 + v4)), (5, .ref (G.1 + v5)), (6, .int v6), (7, .int v7), (8, .int v8)]) [0, 1, 2, 3, 4, 5, 6] rfl ?_
      exact w_Ways_leastWhite_103 C O hm
theorem k_Ways_leastWhite_71 {G : jG} {X : jX} (C : jC G X cX10_leastWhite 9 RX10 3 125) {v3 : Int32} {v4 : Nat} {v5 : Nat} {v6 : Int32} {v7 : Int32} {v8 : Int32} {h : Hp} {out : ((Int32 × Nat × Nat × Int32 × Int32 × Hp) ⊕ (Int32 × Hp))} (O : (O_Ways_leastWhite_53 G X) out) (hm : lp (fun q => s_Ways_leastWhite_71 q.1 q.2.1 q.2.2.1 q.2.2.2.1 q.2.2.2.2.1 q.2.2.2.2.2.1 q.2.2.2.2.2.2) (v3, v4, v5, v6, v7, v8, h) = some out) : J G X 71 [(0, .ref (G.1 + 58)), (3, .int v3), (4, .ref (G.1 + v4)), (5, .ref (G.1 + v5)), (6, .int v6), (7, .int v7), (8, .int v8)] [] h :=
  lp_ok (P := P_Ways_leastWhite_71 G X) (O := (O_Ways_leastWhite_53 G X)) (fun q r hm O => w_Ways_leastWhite_71 C O hm) hm O
theorem w_Ways_leastWhite_151 {G : jG} {X : jX} (C : jC G X cX10_leastWhite 9 RX10 3 125) {s0 : Int32} {h : Hp} {out : (Int32 × Hp)} (O : (O_Ways_leastWhite G X) out) (hm : s_Ways_leastWhite_151 s0 h = some out) : J G X 151 [] [.int s0] h := by
  unfold s_Ways_leastWhite_151 at hm
  obtain rfl := Option.some.inj hm
  exact j_iret C O dX10_leastWhite_151
theorem w_Ways_leastWhite_53 {G : jG} {X : jX} (C : jC G X cX10_leastWhite 9 RX10 3 125) {v3 : Int32} {v4 : Nat} {v5 : Nat} {v6 : Int32} {v7 : Int32} {h : Hp} {out : ((Int32 × Nat × Nat × Int32 × Int32 × Hp) ⊕ (Int32 × Hp))} (O : (O_Ways_leastWhite_53 G X) out) (hm : s_Ways_leastWhite_53 v3 v4 v5 v6 v7 h = some out) : J G X 53 [(0, .ref (G.1 + 58)), (3, .int v3), (4, .ref (G.1 + v4)), (5, .ref (G.1 + v5)), (6, .int v6), (7, .int v7)] [] h := by
  unfold s_Ways_leastWhite_53 at hm
  refine j_iload C 5 dX10_leastWhite_53 rfl ?_
  refine j_sipush C 143 dX10_leastWhite_55 (by decide) ?_
  refine j_if_icmpge C 138 dX10_leastWhite_58 (by decide) hm (fun hm => ?_) (fun hm => ?_)
  · refine j_iload C 4 dX10_leastWhite_138 rfl ?_
    refine j_ldc C wd_1077 dX10_leastWhite_140 ?_
    refine j_if_icmpge C 150 dX10_leastWhite_142 (by decide) hm (fun hm => ?_) (fun hm => ?_)
    · refine j_iconst C (-1 : Int32) dX10_leastWhite_150 (by decide) ?_
      obtain ⟨o_0, hm_0, rfl⟩ := inr_inv hm
      refine j_sub (L' := []) [] rfl ?_
      exact w_Ways_leastWhite_151 C O hm_0
    · refine j_iload C 4 dX10_leastWhite_145 rfl ?_
      refine j_goto C 151 dX10_leastWhite_147 (by decide) ?_
      obtain ⟨o_0, hm_0, rfl⟩ := inr_inv hm
      refine j_sub (L' := []) [] rfl ?_
      exact w_Ways_leastWhite_151 C O hm_0
  · refine j_aload C 3 dX10_leastWhite_61 rfl ?_
    refine j_ldc C wd_1077 dX10_leastWhite_63 ?_
    refine j_cS C l_X10_126 [.ref (G.1 + v5), .int ((1000000 : Int32))] [] (fun _ => none) (fun u1 => u1) (fun u1 => []) hm (fun l u hu => c_Arr_fillI hu) rfl (Nat.le_of_ble_eq_true rfl) rfl (Nat.le_of_ble_eq_true rfl) (Nat.le_of_ble_eq_true rfl) (fun _ => rfl) dX10_leastWhite_65 (fun u1 hm => ?_)
    refine j_iconst C 0 dX10_leastWhite_68 (by decide) ?_
    refine j_istore C [(8, .int ((0 : Int32))), (0, .ref (G.1 + 58)), (3, .int v3), (4, .ref (G.1 + v4)), (5, .ref (G.1 + v5)), (6, .int v6), (7, .int v7)] dX10_leastWhite_69 (by decide) rfl ?_
    refine j_sub (L' := [(0, .ref (G.1 + 58)), (3, .int v3), (4, .ref (G.1 + v4)), (5, .ref (G.1 + v5)), (6, .int v6), (7, .int v7), (8, .int ((0 : Int32)))]) [1, 2, 3, 4, 5, 6, 0] rfl ?_
    exact k_Ways_leastWhite_71 C O hm
theorem k_Ways_leastWhite_53 {G : jG} {X : jX} (C : jC G X cX10_leastWhite 9 RX10 3 125) {v3 : Int32} {v4 : Nat} {v5 : Nat} {v6 : Int32} {v7 : Int32} {h : Hp} {out : (Int32 × Hp)} (O : (O_Ways_leastWhite G X) out) (hm : lp (fun q => s_Ways_leastWhite_53 q.1 q.2.1 q.2.2.1 q.2.2.2.1 q.2.2.2.2.1 q.2.2.2.2.2) (v3, v4, v5, v6, v7, h) = some out) : J G X 53 [(0, .ref (G.1 + 58)), (3, .int v3), (4, .ref (G.1 + v4)), (5, .ref (G.1 + v5)), (6, .int v6), (7, .int v7)] [] h :=
  lp_ok (P := P_Ways_leastWhite_53 G X) (O := (O_Ways_leastWhite G X)) (fun q r hm O => w_Ways_leastWhite_53 C O hm) hm O
theorem w_Ways_leastWhite {G : jG} {X : jX} (C : jC G X cX10_leastWhite 9 RX10 3 125) {v1 : Int32} {v2 : Int32} {v3 : Int32} {h : Hp} {out : (Int32 × Hp)} (O : (O_Ways_leastWhite G X) out) (hm : s_Ways_leastWhite v1 v2 v3 h = some out) : J G X 0 [(0, .ref (G.1 + 58)), (1, .int v1), (2, .int v2), (3, .int v3)] [] h := by
  unfold s_Ways_leastWhite at hm
  refine j_aload_n C 0 dX10_leastWhite_0 rfl rfl ?_
  refine j_gS C f_X10_22 n_58 q_58_5 dX10_leastWhite_1 ?_
  refine j_iload_n C 1 dX10_leastWhite_4 rfl rfl ?_
  refine j_lald C n_62 hm dX10_leastWhite_5 (fun hm => ?_)
  refine j_iload_n C 2 dX10_leastWhite_6 rfl rfl ?_
  refine j_cS C l_X10_103 [.long (hL h 62 (ix v1)), .int v2] [] (fun u1 => some (.int u1)) (fun _ => h) (fun u1 => [.int u1]) hm (fun l u hu => c_Ways_has hu) rfl (Nat.le_of_ble_eq_true rfl) rfl (Nat.le_of_ble_eq_true rfl) (Nat.le_of_ble_eq_true rfl) (fun _ => rfl) dX10_leastWhite_7 (fun u1 hm => ?_)
  refine j_ifne C 15 dX10_leastWhite_10 (by decide) hm (fun hm => ?_) (fun hm => ?_)
  · refine j_iconst C (-1 : Int32) dX10_leastWhite_13 (by decide) ?_
    obtain rfl := Option.some.inj hm
    exact j_iret C O dX10_leastWhite_14
  · refine j_aload_n C 0 dX10_leastWhite_15 rfl rfl ?_
    refine j_gS C f_X10_37 n_58 q_58_10 dX10_leastWhite_16 ?_
    refine j_astore C [(4, .ref (G.1 + 67)), (0, .ref (G.1 + 58)), (1, .int v1), (2, .int v2), (3, .int v3)] dX10_leastWhite_19 (by decide) rfl ?_
    refine j_aload_n C 1 dX10_leastWhite_21 rfl rfl ?_
    refine j_gS C f_X10_40 n_58 q_58_11 dX10_leastWhite_22 ?_
    refine j_astore C [(5, .ref (G.1 + 68)), (4, .ref (G.1 + 67)), (0, .ref (G.1 + 58)), (1, .int v1), (2, .int v2), (3, .int v3)] dX10_leastWhite_25 (by decide) rfl ?_
    refine j_aload C 1 dX10_leastWhite_27 rfl ?_
    refine j_ldc C wd_1077 dX10_leastWhite_29 ?_
    refine j_cS C l_X10_126 [.ref (G.1 + 67), .int ((1000000 : Int32))] [] (fun _ => none) (fun u2 => u2) (fun u2 => []) hm (fun l u hu => c_Arr_fillI hu) rfl (Nat.le_of_ble_eq_true rfl) rfl (Nat.le_of_ble_eq_true rfl) (Nat.le_of_ble_eq_true rfl) (fun _ => rfl) dX10_leastWhite_31 (fun u2 hm => ?_)
    refine j_aload C 1 dX10_leastWhite_34 rfl ?_
    refine j_iload_n C 4 dX10_leastWhite_36 rfl rfl ?_
    refine j_aload_n C 2 dX10_leastWhite_37 rfl rfl ?_
    refine j_iload_n C 4 dX10_leastWhite_38 rfl rfl ?_
    refine j_iload_n C 3 dX10_leastWhite_39 rfl rfl ?_
    refine j_cV C l_X10_129 [.int v2, .int v1] [.int v2, .ref (G.1 + 67)] (fun u3 => some (.int u3)) (fun _ => u2) (fun u3 => [.int u3, .int v2, .ref (G.1 + 67)]) n_58 hm (fun l u hu => c_Ways_whiteAt hu) rfl (Nat.le_of_ble_eq_true rfl) rfl (Nat.le_of_ble_eq_true rfl) (Nat.le_of_ble_eq_true rfl) (fun _ => rfl) dX10_leastWhite_40 (fun u3 hm => ?_)
    refine j_iast C n_67 hm dX10_leastWhite_43 (fun hm => ?_)
    refine j_aload C 1 dX10_leastWhite_44 rfl ?_
    refine j_iload_n C 5 dX10_leastWhite_46 rfl rfl ?_
    refine j_nmH hm (fun h4 hm => ?_)
    refine j_iald C n_67 hm dX10_leastWhite_47 (fun hm => ?_)
    refine j_istore C [(6, .int (hI h4 67 (ix v3))), (5, .ref (G.1 + 68)), (4, .ref (G.1 + 67)), (0, .ref (G.1 + 58)), (1, .int v1), (2, .int v2), (3, .int v3)] dX10_leastWhite_48 (by decide) rfl ?_
    refine j_iload_n C 4 dX10_leastWhite_50 rfl rfl ?_
    refine j_istore C [(7, .int v1), (6, .int (hI h4 67 (ix v3))), (5, .ref (G.1 + 68)), (4, .ref (G.1 + 67)), (0, .ref (G.1 + 58)), (1, .int v1), (2, .int v2), (3, .int v3)] dX10_leastWhite_51 (by decide) rfl ?_
    refine j_sub (L' := [(0, .ref (G.1 + 58)), (3, .int v3), (4, .ref (G.1 + 67)), (5, .ref (G.1 + 68)), (6, .int (hI h4 67 (ix v3))), (7, .int v1)]) [4, 7, 3, 2, 1, 0] rfl ?_
    exact k_Ways_leastWhite_53 C O hm
theorem c_Ways_leastWhite {G : jG} {l : Launch} {v1 : Int32} {v2 : Int32} {v3 : Int32} {h : Hp} {out : (Int32 × Hp)} (hm : s_Ways_leastWhite v1 v2 v3 h = some out) : mt G l yX10_leastWhite cX10_leastWhite 9 (some .int) 3 125 [.ref (G.1 + 58), .int v1, .int v2, .int v3] h (some (.int out.1)) out.2 :=
  mt_of (by decide) (Nat.le_of_ble_eq_true rfl) _ rfl (fun X I C O => w_Ways_leastWhite C O hm)
noncomputable def s_Water_whiteOf_152 (s0 : Int32) (h : Hp) : Option (Int32 × Hp) :=
  (s_Race_nearest s0 ((0 : Int32)) ((99 : Int32)) h).bind fun u1 => some (u1, h)
noncomputable def s_Water_whiteOf_143 (v7 : Int32) (h : Hp) : Option (Int32 × Hp) :=
  s_Water_whiteOf_152 (v7 / ((2 : Int32))) h
noncomputable def s_Water_whiteOf_110 (v1 : Int32) (v3 : Int32) (v4 : Int32) (h : Hp) : Option (Int32 × Hp) :=
  if v1 = ((5 : Int32)) then
    s_Water_whiteOf_152 ((-((v3 * v4) / ((1000 : Int32)))) * ((2 : Int32))) h
  else
    if v1 = ((2 : Int32)) then
      s_Water_whiteOf_143 (-((v3 * v4) / ((1000 : Int32)))) h
    else
      if v1 = ((3 : Int32)) then
        s_Water_whiteOf_143 (-((v3 * v4) / ((1000 : Int32)))) h
      else
        s_Water_whiteOf_152 (-((v3 * v4) / ((1000 : Int32)))) h
noncomputable def s_Water_whiteOf (v1 : Int32) (v2 : Int32) (h : Hp) : Option (Int32 × Hp) :=
  if v1 = 0 then
    some ((0 : Int32), h)
  else
    (s_Water_flowOf v1 v2 h).bind fun u1 => ib ((9 : Int32)) 11 <| ib ((10 : Int32)) 11 <| (s_State_lawInForce h).bind fun u2 => nq u2 (s_Water_whiteOf_110 v1 u1 (hI h 4 (ix ((9 : Int32)))) h) fun r3 => (s_Water_levelToday ((0 : Int32)) v2 h).bind fun u5 => (s_Water_levelToday ((1 : Int32)) v2 h).bind fun u6 => (s_Teller_hear (u5 - u6) u1 v2 (hI h 4 (ix ((9 : Int32)))) (hI h 4 (ix ((10 : Int32)))) v1 ((0 : Int32)) h).bind fun u7 => (s_Teller_tellsBy r3 ((1 : Int32)) u7).bind fun u8 => if u8.1 = 0 then
        s_Water_whiteOf_110 v1 u1 (hI h 4 (ix ((9 : Int32)))) u8.2
      else
        (s_Race_nearest (hI u8.2 51 2) ((0 : Int32)) ((99 : Int32)) u8.2).bind fun u9 => some (u9, u8.2)
def O_Water_whiteOf (G : jG) (X : jX) (out : (Int32 × Hp)) : Prop := jO G X (some .int) (some (.int out.1)) out.2
theorem w_Water_whiteOf_152 {G : jG} {X : jX} (C : jC G X cX9_whiteOf 9 RX9 4 152) {s0 : Int32} {h : Hp} {out : (Int32 × Hp)} (O : (O_Water_whiteOf G X) out) (hm : s_Water_whiteOf_152 s0 h = some out) : J G X 152 [] [.int s0] h := by
  unfold s_Water_whiteOf_152 at hm
  refine j_istore C [(8, .int s0)] dX9_whiteOf_152 (by decide) rfl ?_
  refine j_iload C 0 dX9_whiteOf_154 rfl ?_
  refine j_iconst C 0 dX9_whiteOf_156 (by decide) ?_
  refine j_bipush C 99 dX9_whiteOf_157 (by decide) ?_
  refine j_cN C l_X9_127 [.int s0, .int ((0 : Int32)), .int ((99 : Int32))] [] (fun u1 => some (.int u1)) (fun _ => h) (fun u1 => [.int u1]) hm (fun l u hu => c_Race_nearest hu) rfl (Nat.le_of_ble_eq_true rfl) rfl (Nat.le_of_ble_eq_true rfl) (Nat.le_of_ble_eq_true rfl) (fun _ => rfl) dX9_whiteOf_159 (fun u1 hm => ?_)
  obtain rfl := Option.some.inj hm
  exact j_iret C O dX9_whiteOf_162
theorem w_Water_whiteOf_143 {G : jG} {X : jX} (C : jC G X cX9_whiteOf 9 RX9 4 152) {v7 : Int32} {h : Hp} {out : (Int32 × Hp)} (O : (O_Water_whiteOf G X) out) (hm : s_Water_whiteOf_143 v7 h = some out) : J G X 143 [(7, .int v7)] [] h := by
  unfold s_Water_whiteOf_143 at hm
  refine j_iload C 0 dX9_whiteOf_143 rfl ?_
  refine j_iconst C 2 dX9_whiteOf_145 (by decide) ?_
  refine j_idiv C dX9_whiteOf_146 (by decide) ?_
  refine j_goto C 152 dX9_whiteOf_147 (by decide) ?_
  refine j_sub (L' := []) [] rfl ?_
  exact w_Water_whiteOf_152 C O hm
theorem w_Water_whiteOf_110 {G : jG} {X : jX} (C : jC G X cX9_whiteOf 9 RX9 4 152) {v1 : Int32} {v3 : Int32} {v4 : Int32} {h : Hp} {out : (Int32 × Hp)} (O : (O_Water_whiteOf G X) out) (hm : s_Water_whiteOf_110 v1 v3 v4 h = some out) : J G X 110 [(1, .int v1), (3, .int v3), (4, .int v4)] [] h := by
  unfold s_Water_whiteOf_110 at hm
  refine j_iload_n C 1 dX9_whiteOf_110 rfl rfl ?_
  refine j_iload C 2 dX9_whiteOf_111 rfl ?_
  refine j_imul C dX9_whiteOf_113 ?_
  refine j_sipush C 1000 dX9_whiteOf_114 (by decide) ?_
  refine j_idiv C dX9_whiteOf_117 (by decide) ?_
  refine j_ineg C dX9_whiteOf_118 ?_
  refine j_istore C [(7, .int (-((v3 * v4) / ((1000 : Int32))))), (1, .int v1), (3, .int v3), (4, .int v4)] dX9_whiteOf_119 (by decide) rfl ?_
  refine j_iload_n C 1 dX9_whiteOf_121 rfl rfl ?_
  refine j_iconst C 5 dX9_whiteOf_122 (by decide) ?_
  refine j_if_icmpne C 133 dX9_whiteOf_123 (by decide) hm (fun hm => ?_) (fun hm => ?_)
  · refine j_iload C 0 dX9_whiteOf_126 rfl ?_
    refine j_iconst C 2 dX9_whiteOf_128 (by decide) ?_
    refine j_imul C dX9_whiteOf_129 ?_
    refine j_goto C 152 dX9_whiteOf_130 (by decide) ?_
    refine j_sub (L' := []) [] rfl ?_
    exact w_Water_whiteOf_152 C O hm
  · refine j_iload_n C 1 dX9_whiteOf_133 rfl rfl ?_
    refine j_iconst C 2 dX9_whiteOf_134 (by decide) ?_
    refine j_if_icmpeq C 143 dX9_whiteOf_135 (by decide) hm (fun hm => ?_) (fun hm => ?_)
    · refine j_sub (L' := [(7, .int (-((v3 * v4) / ((1000 : Int32)))))]) [0] rfl ?_
      exact w_Water_whiteOf_143 C O hm
    · refine j_iload_n C 1 dX9_whiteOf_138 rfl rfl ?_
      refine j_iconst C 3 dX9_whiteOf_139 (by decide) ?_
      refine j_if_icmpne C 150 dX9_whiteOf_140 (by decide) hm (fun hm => ?_) (fun hm => ?_)
      · refine j_sub (L' := [(7, .int (-((v3 * v4) / ((1000 : Int32)))))]) [0] rfl ?_
        exact w_Water_whiteOf_143 C O hm
      · refine j_iload C 0 dX9_whiteOf_150 rfl ?_
        refine j_sub (L' := []) [] rfl ?_
        exact w_Water_whiteOf_152 C O hm
theorem w_Water_whiteOf {G : jG} {X : jX} (C : jC G X cX9_whiteOf 9 RX9 4 152) {v1 : Int32} {v2 : Int32} {h : Hp} {out : (Int32 × Hp)} (O : (O_Water_whiteOf G X) out) (hm : s_Water_whiteOf v1 v2 h = some out) : J G X 0 [(0, .ref (G.1 + 50)), (1, .int v1), (2, .int v2)] [] h := by
  unfold s_Water_whiteOf at hm
  refine j_iload_n C 1 dX9_whiteOf_0 rfl rfl ?_
  refine j_ifne C 6 dX9_whiteOf_1 (by decide) hm (fun hm => ?_) (fun hm => ?_)
  · refine j_iconst C 0 dX9_whiteOf_4 (by decide) ?_
    obtain rfl := Option.some.inj hm
    exact j_iret C O dX9_whiteOf_5
  · refine j_aload_n C 0 dX9_whiteOf_6 rfl rfl ?_
    refine j_iload_n C 1 dX9_whiteOf_7 rfl rfl ?_
    refine j_iload_n C 2 dX9_whiteOf_8 rfl rfl ?_
    refine j_cV C l_X9_155 [.int v1, .int v2] [] (fun u1 => some (.int u1)) (fun _ => h) (fun u1 => [.int u1]) n_50 hm (fun l u hu => c_Water_flowOf hu) rfl (Nat.le_of_ble_eq_true rfl) rfl (Nat.le_of_ble_eq_true rfl) (Nat.le_of_ble_eq_true rfl) (fun _ => rfl) dX9_whiteOf_9 (fun u1 hm => ?_)
    refine j_istore_n C [(3, .int u1), (0, .ref (G.1 + 50)), (1, .int v1), (2, .int v2)] dX9_whiteOf_12 rfl (by decide) rfl ?_
    refine j_aload_n C 1 dX9_whiteOf_13 rfl rfl ?_
    refine j_gS C f_X9_58 n_50 q_50_0 dX9_whiteOf_14 ?_
    refine j_gS C f_X9_90 n_1 q_1_2 dX9_whiteOf_17 ?_
    refine j_bipush C 9 dX9_whiteOf_20 (by decide) ?_
    refine j_iald C n_4 hm dX9_whiteOf_22 (fun hm => ?_)
    refine j_istore C [(4, .int (hI h 4 (ix ((9 : Int32))))), (3, .int u1), (0, .ref (G.1 + 50)), (1, .int v1), (2, .int v2)] dX9_whiteOf_23 (by decide) rfl ?_
    refine j_aload_n C 2 dX9_whiteOf_25 rfl rfl ?_
    refine j_gS C f_X9_58 n_50 q_50_0 dX9_whiteOf_26 ?_
    refine j_gS C f_X9_90 n_1 q_1_2 dX9_whiteOf_29 ?_
    refine j_bipush C 10 dX9_whiteOf_32 (by decide) ?_
    refine j_iald C n_4 hm dX9_whiteOf_34 (fun hm => ?_)
    refine j_istore C [(5, .int (hI h 4 (ix ((10 : Int32))))), (4, .int (hI h 4 (ix ((9 : Int32))))), (3, .int u1), (0, .ref (G.1 + 50)), (1, .int v1), (2, .int v2)] dX9_whiteOf_35 (by decide) rfl ?_
    refine j_aload_n C 3 dX9_whiteOf_37 rfl rfl ?_
    refine j_gS C f_X9_58 n_50 q_50_0 dX9_whiteOf_38 ?_
    refine j_cV C l_X9_130 [] [] (fun u2 => some (rv G u2)) (fun _ => h) (fun u2 => [rv G u2]) n_1 hm (fun l u hu => c_State_lawInForce hu) rfl (Nat.le_of_ble_eq_true rfl) rfl (Nat.le_of_ble_eq_true rfl) (Nat.le_of_ble_eq_true rfl) (fun _ => rfl) dX9_whiteOf_41 (fun u2 hm => ?_)
    refine j_astoreQ C [(6, rv G u2), (5, .int (hI h 4 (ix ((10 : Int32))))), (4, .int (hI h 4 (ix ((9 : Int32))))), (3, .int u1), (0, .ref (G.1 + 50)), (1, .int v1), (2, .int v2)] dX9_whiteOf_44 (by decide) rfl ?_
    refine j_aloadQ C 0 dX9_whiteOf_46 rfl ?_
    rcases nq_inv hm with ⟨c4, hm⟩ | ⟨r3, c4, hm⟩
    · rw [c4]
      refine j_ifnullN C 110 dX9_whiteOf_48 (by decide) ?_
      refine j_sub (L' := [(1, .int v1), (3, .int u1), (4, .int (hI h 4 (ix ((9 : Int32)))))]) [5, 3, 2] rfl ?_
      exact w_Water_whiteOf_110 C O hm
    · rw [c4]
      refine j_ifnull C dX9_whiteOf_48 ?_
      refine j_aload_n C 4 dX9_whiteOf_51 rfl rfl ?_
      refine j_iconst C 0 dX9_whiteOf_52 (by decide) ?_
      refine j_iload_n C 6 dX9_whiteOf_53 rfl rfl ?_
      refine j_cV C l_X9_158 [.int ((0 : Int32)), .int v2] [] (fun u5 => some (.int u5)) (fun _ => h) (fun u5 => [.int u5]) n_50 hm (fun l u hu => c_Water_levelToday hu) rfl (Nat.le_of_ble_eq_true rfl) rfl (Nat.le_of_ble_eq_true rfl) (Nat.le_of_ble_eq_true rfl) (fun _ => rfl) dX9_whiteOf_54 (fun u5 hm => ?_)
      refine j_aload_n C 4 dX9_whiteOf_57 rfl rfl ?_
      refine j_iconst C 1 dX9_whiteOf_58 (by decide) ?_
      refine j_iload_n C 6 dX9_whiteOf_59 rfl rfl ?_
      refine j_cV C l_X9_158 [.int ((1 : Int32)), .int v2] [.int u5] (fun u6 => some (.int u6)) (fun _ => h) (fun u6 => [.int u6, .int u5]) n_50 hm (fun l u hu => c_Water_levelToday hu) rfl (Nat.le_of_ble_eq_true rfl) rfl (Nat.le_of_ble_eq_true rfl) (Nat.le_of_ble_eq_true rfl) (fun _ => rfl) dX9_whiteOf_60 (fun u6 hm => ?_)
      refine j_isub C dX9_whiteOf_63 ?_
      refine j_istore C [(7, .int (u5 - u6)), (6, .ref (G.1 + r3)), (5, .int (hI h 4 (ix ((10 : Int32))))), (4, .int (hI h 4 (ix ((9 : Int32))))), (3, .int u1), (0, .ref (G.1 + 50)), (1, .int v1), (2, .int v2)] dX9_whiteOf_64 (by decide) rfl ?_
      refine j_aload_n C 5 dX9_whiteOf_66 rfl rfl ?_
      refine j_gS C f_X9_12 n_50 q_50_1 dX9_whiteOf_67 ?_
      refine j_iload C 0 dX9_whiteOf_70 rfl ?_
      refine j_iload_n C 4 dX9_whiteOf_72 rfl rfl ?_
      refine j_iload_n C 7 dX9_whiteOf_73 rfl rfl ?_
      refine j_iload C 3 dX9_whiteOf_74 rfl ?_
      refine j_iload C 2 dX9_whiteOf_76 rfl ?_
      refine j_iload_n C 6 dX9_whiteOf_78 rfl rfl ?_
      refine j_iconst C 0 dX9_whiteOf_79 (by decide) ?_
      refine j_cV C l_X9_134 [.int (u5 - u6), .int u1, .int v2, .int (hI h 4 (ix ((9 : Int32)))), .int (hI h 4 (ix ((10 : Int32)))), .int v1, .int ((0 : Int32))] [] (fun _ => none) (fun u7 => u7) (fun u7 => []) n_51 hm (fun l u hu => c_Teller_hear hu) rfl (Nat.le_of_ble_eq_true rfl) rfl (Nat.le_of_ble_eq_true rfl) (Nat.le_of_ble_eq_true rfl) (fun _ => rfl) dX9_whiteOf_80 (fun u7 hm => ?_)
      refine j_aload_n C 5 dX9_whiteOf_83 rfl rfl ?_
      refine j_gS C f_X9_12 n_50 q_50_1 dX9_whiteOf_84 ?_
      refine j_aload C 1 dX9_whiteOf_87 rfl ?_
      refine j_iconst C 1 dX9_whiteOf_89 (by decide) ?_
      refine j_cV C l_X9_140 [.ref (G.1 + r3), .int ((1 : Int32))] [] (fun u8 => some (.int u8.1)) (fun u8 => u8.2) (fun u8 => [.int u8.1]) n_51 hm (fun l u hu => c_Teller_tellsBy hu) rfl (Nat.le_of_ble_eq_true rfl) rfl (Nat.le_of_ble_eq_true rfl) (Nat.le_of_ble_eq_true rfl) (fun _ => rfl) dX9_whiteOf_90 (fun u8 hm => ?_)
      refine j_ifeq C 110 dX9_whiteOf_93 (by decide) hm (fun hm => ?_) (fun hm => ?_)
      · refine j_sub (L' := [(1, .int v1), (3, .int u1), (4, .int (hI h 4 (ix ((9 : Int32)))))]) [6, 4, 3] rfl ?_
        exact w_Water_whiteOf_110 C O hm
      · refine j_aload_n C 5 dX9_whiteOf_96 rfl rfl ?_
        refine j_gS C f_X9_12 n_50 q_50_1 dX9_whiteOf_97 ?_
        refine j_gI C f_X9_144 n_51 dX9_whiteOf_100 ?_
        refine j_iconst C 0 dX9_whiteOf_103 (by decide) ?_
        refine j_bipush C 99 dX9_whiteOf_104 (by decide) ?_
        refine j_cN C l_X9_127 [.int (hI u8.2 51 2), .int ((0 : Int32)), .int ((99 : Int32))] [] (fun u9 => some (.int u9)) (fun _ => u8.2) (fun u9 => [.int u9]) hm (fun l u hu => c_Race_nearest hu) rfl (Nat.le_of_ble_eq_true rfl) rfl (Nat.le_of_ble_eq_true rfl) (Nat.le_of_ble_eq_true rfl) (fun _ => rfl) dX9_whiteOf_106 (fun u9 hm => ?_)
        obtain rfl := Option.some.inj hm
        exact j_iret C O dX9_whiteOf_109
theorem c_Water_whiteOf {G : jG} {l : Launch} {v1 : Int32} {v2 : Int32} {h : Hp} {out : (Int32 × Hp)} (hm : s_Water_whiteOf v1 v2 h = some out) : mt G l yX9_whiteOf cX9_whiteOf 9 (some .int) 4 152 [.ref (G.1 + 50), .int v1, .int v2] h (some (.int out.1)) out.2 :=
  mt_of (by decide) (Nat.le_of_ble_eq_true rfl) _ rfl (fun X I C O => w_Water_whiteOf C O hm)
noncomputable def s_Ways_freshenSteps_19 (v1 : Int32) (v2 : Int32) (h : Hp) : Option ((Int32 × Int32 × Hp) ⊕ ((Int32 × Hp) ⊕ Hp)) :=
  if ((6 : Int32)) ≤ v2 then
    some (.inr (.inl ((v1 + (1 : Int32)), h)))
  else
    (s_Water_flowOf v2 (v1 * ((10 : Int32))) h).bind fun u1 => ib ((v1 * ((6 : Int32))) + v2) 864 <| lt (sI h 59 (ix ((v1 * ((6 : Int32))) + v2)) u1) fun h2 => (s_Water_whiteOf v2 (v1 * ((10 : Int32))) h2).bind fun u3 => ib ((v1 * ((6 : Int32))) + v2) 864 <| some (.inl (v1, (v2 + (1 : Int32)), (sI u3.2 60 (ix ((v1 * ((6 : Int32))) + v2)) u3.1)))
noncomputable def s_Ways_freshenSteps_10 (v1 : Int32) (h : Hp) : Option ((Int32 × Hp) ⊕ Hp) :=
  if ((144 : Int32)) ≤ v1 then
    some (.inr (sI h 58 12 ((1 : Int32))))
  else
    lp (fun q => s_Ways_freshenSteps_19 q.1 q.2.1 q.2.2) (v1, ((0 : Int32)), h)
noncomputable def s_Ways_freshenSteps (h : Hp) : Option Hp :=
  if (hI h 58 12) = 0 then
    lp (fun q => s_Ways_freshenSteps_10 q.1 q.2) (((0 : Int32)), h)
  else
    some h
def O_Ways_freshenSteps (G : jG) (X : jX) (out : Hp) : Prop := jO G X (none) none out
def P_Ways_freshenSteps_10 (G : jG) (X : jX) (q : Int32 × Hp) : Prop := J G X 10 [(0, .ref (G.1 + 58)), (1, .int q.1)] [] q.2
def O_Ways_freshenSteps_10 (G : jG) (X : jX) (t : ((Int32 × Hp) ⊕ Hp)) : Prop := Sum.elim (P_Ways_freshenSteps_10 G X) (O_Ways_freshenSteps G X) t
def P_Ways_freshenSteps_19 (G : jG) (X : jX) (q : Int32 × Int32 × Hp) : Prop := J G X 19 [(0, .ref (G.1 + 58)), (1, .int q.1), (2, .int q.2.1)] [] q.2.2
def O_Ways_freshenSteps_19 (G : jG) (X : jX) (t : ((Int32 × Int32 × Hp) ⊕ ((Int32 × Hp) ⊕ Hp))) : Prop := Sum.elim (P_Ways_freshenSteps_19 G X) (O_Ways_freshenSteps_10 G X) t
theorem w_Ways_freshenSteps_19 {G : jG} {X : jX} (C : jC G X cX10_freshenSteps 4 RX10 5 180) {v1 : Int32} {v2 : Int32} {h : Hp} {out : ((Int32 × Int32 × Hp) ⊕ ((Int32 × Hp) ⊕ Hp))} (O : (O_Ways_freshenSteps_19 G X) out) (hm : s_Ways_freshenSteps_19 v1 v2 h = some out) : J G X 19 [(0, .ref (G.1 + 58)), (1, .int v1), (2, .int v2)] [] h := by
  unfold s_Ways_freshenSteps_19 at hm
  refine j_iload_n C 2 dX10_freshenSteps_19 rfl rfl ?_
  refine j_bipush C 6 dX10_freshenSteps_20 (by decide) ?_
  refine j_if_icmpge C 74 dX10_freshenSteps_22 (by decide) hm (fun hm => ?_) (fun hm => ?_)
  · refine j_iinc C 1 [(1, .int (v1 + (1 : Int32))), (0, .ref (G.1 + 58)), (2, .int v2)] dX10_freshenSteps_74 rfl (add_lit (by decide)) (by decide) rfl ?_
    refine j_goto C 10 dX10_freshenSteps_77 (by decide) ?_
    obtain rfl := Option.some.inj hm
    refine j_sub (L' := [(0, .ref (G.1 + 58)), (1, .int (v1 + (1 : Int32)))]) [1, 0] rfl ?_
    exact O
  · refine j_iload_n C 1 dX10_freshenSteps_25 rfl rfl ?_
    refine j_bipush C 6 dX10_freshenSteps_26 (by decide) ?_
    refine j_imul C dX10_freshenSteps_28 ?_
    refine j_iload_n C 2 dX10_freshenSteps_29 rfl rfl ?_
    refine j_iadd C dX10_freshenSteps_30 ?_
    refine j_istore_n C [(3, .int ((v1 * ((6 : Int32))) + v2)), (0, .ref (G.1 + 58)), (1, .int v1), (2, .int v2)] dX10_freshenSteps_31 rfl (by decide) rfl ?_
    refine j_aload_n C 1 dX10_freshenSteps_32 rfl rfl ?_
    refine j_gS C f_X10_11 n_58 q_58_2 dX10_freshenSteps_33 ?_
    refine j_iload_n C 0 dX10_freshenSteps_36 rfl rfl ?_
    refine j_aload_n C 1 dX10_freshenSteps_37 rfl rfl ?_
    refine j_gS C f_X10_51 n_58 q_58_1 dX10_freshenSteps_38 ?_
    refine j_iload_n C 3 dX10_freshenSteps_41 rfl rfl ?_
    refine j_iload_n C 2 dX10_freshenSteps_42 rfl rfl ?_
    refine j_bipush C 10 dX10_freshenSteps_43 (by decide) ?_
    refine j_imul C dX10_freshenSteps_45 ?_
    refine j_cV C l_X10_79 [.int v2, .int (v1 * ((10 : Int32)))] [.int ((v1 * ((6 : Int32))) + v2), .ref (G.1 + 59)] (fun u1 => some (.int u1)) (fun _ => h) (fun u1 => [.int u1, .int ((v1 * ((6 : Int32))) + v2), .ref (G.1 + 59)]) n_50 hm (fun l u hu => c_Water_flowOf hu) rfl (Nat.le_of_ble_eq_true rfl) rfl (Nat.le_of_ble_eq_true rfl) (Nat.le_of_ble_eq_true rfl) (fun _ => rfl) dX10_freshenSteps_46 (fun u1 hm => ?_)
    refine j_iast C n_59 hm dX10_freshenSteps_49 (fun hm => ?_)
    refine j_aload_n C 1 dX10_freshenSteps_50 rfl rfl ?_
    refine j_nmH hm (fun h2 hm => ?_)
    refine j_gS C f_X10_15 n_58 q_58_3 dX10_freshenSteps_51 ?_
    refine j_iload_n C 0 dX10_freshenSteps_54 rfl rfl ?_
    refine j_aload_n C 1 dX10_freshenSteps_55 rfl rfl ?_
    refine j_gS C f_X10_51 n_58 q_58_1 dX10_freshenSteps_56 ?_
    refine j_iload_n C 3 dX10_freshenSteps_59 rfl rfl ?_
    refine j_iload_n C 2 dX10_freshenSteps_60 rfl rfl ?_
    refine j_bipush C 10 dX10_freshenSteps_61 (by decide) ?_
    refine j_imul C dX10_freshenSteps_63 ?_
    refine j_cV C l_X10_85 [.int v2, .int (v1 * ((10 : Int32)))] [.int ((v1 * ((6 : Int32))) + v2), .ref (G.1 + 60)] (fun u3 => some (.int u3.1)) (fun u3 => u3.2) (fun u3 => [.int u3.1, .int ((v1 * ((6 : Int32))) + v2), .ref (G.1 + 60)]) n_50 hm (fun l u hu => c_Water_whiteOf hu) rfl (Nat.le_of_ble_eq_true rfl) rfl (Nat.le_of_ble_eq_true rfl) (Nat.le_of_ble_eq_true rfl) (fun _ => rfl) dX10_freshenSteps_64 (fun u3 hm => ?_)
    refine j_iast C n_60 hm dX10_freshenSteps_67 (fun hm => ?_)
    refine j_iinc C 3 [(2, .int (v2 + (1 : Int32))), (3, .int ((v1 * ((6 : Int32))) + v2)), (0, .ref (G.1 + 58)), (1, .int v1)] dX10_freshenSteps_68 rfl (add_lit (by decide)) (by decide) rfl ?_
    refine j_goto C 19 dX10_freshenSteps_71 (by decide) ?_
    obtain rfl := Option.some.inj hm
    refine j_sub (L' := [(0, .ref (G.1 + 58)), (1, .int v1), (2, .int (v2 + (1 : Int32)))]) [2, 3, 0] rfl ?_
    exact O
theorem k_Ways_freshenSteps_19 {G : jG} {X : jX} (C : jC G X cX10_freshenSteps 4 RX10 5 180) {v1 : Int32} {v2 : Int32} {h : Hp} {out : ((Int32 × Hp) ⊕ Hp)} (O : (O_Ways_freshenSteps_10 G X) out) (hm : lp (fun q => s_Ways_freshenSteps_19 q.1 q.2.1 q.2.2) (v1, v2, h) = some out) : J G X 19 [(0, .ref (G.1 + 58)), (1, .int v1), (2, .int v2)] [] h :=
  lp_ok (P := P_Ways_freshenSteps_19 G X) (O := (O_Ways_freshenSteps_10 G X)) (fun q r hm O => w_Ways_freshenSteps_19 C O hm) hm O
theorem w_Ways_freshenSteps_10 {G : jG} {X : jX} (C : jC G X cX10_freshenSteps 4 RX10 5 180) {v1 : Int32} {h : Hp} {out : ((Int32 × Hp) ⊕ Hp)} (O : (O_Ways_freshenSteps_10 G X) out) (hm : s_Ways_freshenSteps_10 v1 h = some out) : J G X 10 [(0, .ref (G.1 + 58)), (1, .int v1)] [] h := by
  unfold s_Ways_freshenSteps_10 at hm
  refine j_iload_n C 1 dX10_freshenSteps_10 rfl rfl ?_
  refine j_sipush C 144 dX10_freshenSteps_11 (by decide) ?_
  refine j_if_icmpge C 80 dX10_freshenSteps_14 (by decide) hm (fun hm => ?_) (fun hm => ?_)
  · refine j_aload_n C 0 dX10_freshenSteps_80 rfl rfl ?_
    refine j_iconst C 1 dX10_freshenSteps_81 (by decide) ?_
    refine j_pZ C f_X10_43 n_58 (by decide) dX10_freshenSteps_82 ?_
    obtain rfl := Option.some.inj hm
    exact j_vret C O dX10_freshenSteps_85
  · refine j_iconst C 0 dX10_freshenSteps_17 (by decide) ?_
    refine j_istore_n C [(2, .int ((0 : Int32))), (0, .ref (G.1 + 58)), (1, .int v1)] dX10_freshenSteps_18 rfl (by decide) rfl ?_
    refine j_sub (L' := [(0, .ref (G.1 + 58)), (1, .int v1), (2, .int ((0 : Int32)))]) [1, 2, 0] rfl ?_
    exact k_Ways_freshenSteps_19 C O hm
theorem k_Ways_freshenSteps_10 {G : jG} {X : jX} (C : jC G X cX10_freshenSteps 4 RX10 5 180) {v1 : Int32} {h : Hp} {out : Hp} (O : (O_Ways_freshenSteps G X) out) (hm : lp (fun q => s_Ways_freshenSteps_10 q.1 q.2) (v1, h) = some out) : J G X 10 [(0, .ref (G.1 + 58)), (1, .int v1)] [] h :=
  lp_ok (P := P_Ways_freshenSteps_10 G X) (O := (O_Ways_freshenSteps G X)) (fun q r hm O => w_Ways_freshenSteps_10 C O hm) hm O
theorem w_Ways_freshenSteps {G : jG} {X : jX} (C : jC G X cX10_freshenSteps 4 RX10 5 180) {h : Hp} {out : Hp} (O : (O_Ways_freshenSteps G X) out) (hm : s_Ways_freshenSteps h = some out) : J G X 0 [(0, .ref (G.1 + 58))] [] h := by
  unfold s_Ways_freshenSteps at hm
  refine j_aload_n C 0 dX10_freshenSteps_0 rfl rfl ?_
  refine j_gZ C f_X10_43 n_58 dX10_freshenSteps_1 ?_
  refine j_ifeq C 8 dX10_freshenSteps_4 (by decide) hm (fun hm => ?_) (fun hm => ?_)
  · refine j_iconst C 0 dX10_freshenSteps_8 (by decide) ?_
    refine j_istore_n C [(1, .int ((0 : Int32))), (0, .ref (G.1 + 58))] dX10_freshenSteps_9 rfl (by decide) rfl ?_
    refine j_sub (L' := [(0, .ref (G.1 + 58)), (1, .int ((0 : Int32)))]) [1, 0] rfl ?_
    exact k_Ways_freshenSteps_10 C O hm
  · obtain rfl := Option.some.inj hm
    exact j_vret C O dX10_freshenSteps_7
theorem c_Ways_freshenSteps {G : jG} {l : Launch} {h : Hp} {out : Hp} (hm : s_Ways_freshenSteps h = some out) : mt G l yX10_freshenSteps cX10_freshenSteps 4 (none) 5 180 [.ref (G.1 + 58)] h none out :=
  mt_of (by decide) (Nat.le_of_ble_eq_true rfl) _ rfl (fun X I C O => w_Ways_freshenSteps C O hm)
