noncomputable def s_Water_slacksOf_23 (v1 : Nat) (v2 : Int32) (v3 : Int32) (h : Hp) : Option ((Nat × Int32 × Int32) ⊕ Int32) :=
  some (.inl (v1, v2, (v3 + (1 : Int32))))
noncomputable def s_Water_slacksOf_4 (v1 : Nat) (v2 : Int32) (v3 : Int32) (h : Hp) : Option ((Nat × Int32 × Int32) ⊕ Int32) :=
  if ((1440 : Int32)) ≤ v3 then
    some (.inr (v2))
  else
    (s_Water_beginsSlack v1 v3 h).bind fun u1 => if u1 = 0 then
      s_Water_slacksOf_23 v1 v2 v3 h
    else
      s_Water_slacksOf_23 v1 (v2 + (1 : Int32)) v3 h
noncomputable def s_Water_slacksOf (v1 : Nat) (h : Hp) : Option Int32 :=
  lp (fun q => s_Water_slacksOf_4 q.1 q.2.1 q.2.2 h) (v1, ((0 : Int32)), ((0 : Int32)))
def O_Water_slacksOf (G : jG) (X : jX) (h : Hp) (out : Int32) : Prop := jO G X (some .int) (some (.int out)) h
def P_Water_slacksOf_4 (G : jG) (X : jX) (h : Hp) (q : Nat × Int32 × Int32) : Prop := J G X 4 [(0, .ref (G.1 + 50)), (1, .ref (G.1 + q.1)), (2, .int q.2.1), (3, .int q.2.2)] [] h
def O_Water_slacksOf_4 (G : jG) (X : jX) (h : Hp) (t : ((Nat × Int32 × Int32) ⊕ Int32)) : Prop := Sum.elim (P_Water_slacksOf_4 G X h) (O_Water_slacksOf G X h) t
theorem w_Water_slacksOf_23 {G : jG} {X : jX} (C : jC G X cX9_slacksOf 4 RX9 3 113) {v1 : Nat} {v2 : Int32} {v3 : Int32} {h : Hp} {out : ((Nat × Int32 × Int32) ⊕ Int32)} (O : (O_Water_slacksOf_4 G X h) out) (hm : s_Water_slacksOf_23 v1 v2 v3 h = some out) : J G X 23 [(0, .ref (G.1 + 50)), (1, .ref (G.1 + v1)), (2, .int v2), (3, .int v3)] [] h := by
  unfold s_Water_slacksOf_23 at hm
  refine j_iinc C 3 [(3, .int (v3 + (1 : Int32))), (0, .ref (G.1 + 50)), (1, .ref (G.1 + v1)), (2, .int v2)] dX9_slacksOf_23 rfl (add_lit (by decide)) (by decide) rfl ?_
  refine j_goto C 4 dX9_slacksOf_26 (by decide) ?_
  obtain rfl := Option.some.inj hm
  refine j_sub (L' := [(0, .ref (G.1 + 50)), (1, .ref (G.1 + v1)), (2, .int v2), (3, .int (v3 + (1 : Int32)))]) [1, 2, 3, 0] rfl ?_
  exact O
theorem w_Water_slacksOf_4 {G : jG} {X : jX} (C : jC G X cX9_slacksOf 4 RX9 3 113) {v1 : Nat} {v2 : Int32} {v3 : Int32} {h : Hp} {out : ((Nat × Int32 × Int32) ⊕ Int32)} (O : (O_Water_slacksOf_4 G X h) out) (hm : s_Water_slacksOf_4 v1 v2 v3 h = some out) : J G X 4 [(0, .ref (G.1 + 50)), (1, .ref (G.1 + v1)), (2, .int v2), (3, .int v3)] [] h := by
  unfold s_Water_slacksOf_4 at hm
  refine j_iload_n C 3 dX9_slacksOf_4 rfl rfl ?_
  refine j_sipush C 1440 dX9_slacksOf_5 (by decide) ?_
  refine j_if_icmpge C 29 dX9_slacksOf_8 (by decide) hm (fun hm => ?_) (fun hm => ?_)
  · refine j_iload_n C 2 dX9_slacksOf_29 rfl rfl ?_
    obtain rfl := Option.some.inj hm
    exact j_iret C O dX9_slacksOf_30
  · refine j_aload_n C 0 dX9_slacksOf_11 rfl rfl ?_
    refine j_aload_n C 1 dX9_slacksOf_12 rfl rfl ?_
    refine j_iload_n C 3 dX9_slacksOf_13 rfl rfl ?_
    refine j_cV C l_X9_161 [.ref (G.1 + v1), .int v3] [] (fun u1 => some (.int u1)) (fun _ => h) (fun u1 => [.int u1]) n_50 hm (fun l u hu => c_Water_beginsSlack hu) rfl (Nat.le_of_ble_eq_true rfl) rfl (Nat.le_of_ble_eq_true rfl) (Nat.le_of_ble_eq_true rfl) (fun _ => rfl) dX9_slacksOf_14 (fun u1 hm => ?_)
    refine j_ifeq C 23 dX9_slacksOf_17 (by decide) hm (fun hm => ?_) (fun hm => ?_)
    · refine j_sub (L' := [(0, .ref (G.1 + 50)), (1, .ref (G.1 + v1)), (2, .int v2), (3, .int v3)]) [0, 1, 2, 3] rfl ?_
      exact w_Water_slacksOf_23 C O hm
    · refine j_iinc C 2 [(2, .int (v2 + (1 : Int32))), (0, .ref (G.1 + 50)), (1, .ref (G.1 + v1)), (3, .int v3)] dX9_slacksOf_20 rfl (add_lit (by decide)) (by decide) rfl ?_
      refine j_sub (L' := [(0, .ref (G.1 + 50)), (1, .ref (G.1 + v1)), (2, .int (v2 + (1 : Int32))), (3, .int v3)]) [1, 2, 0, 3] rfl ?_
      exact w_Water_slacksOf_23 C O hm
theorem k_Water_slacksOf_4 {G : jG} {X : jX} (C : jC G X cX9_slacksOf 4 RX9 3 113) {v1 : Nat} {v2 : Int32} {v3 : Int32} {h : Hp} {out : Int32} (O : (O_Water_slacksOf G X h) out) (hm : lp (fun q => s_Water_slacksOf_4 q.1 q.2.1 q.2.2 h) (v1, v2, v3) = some out) : J G X 4 [(0, .ref (G.1 + 50)), (1, .ref (G.1 + v1)), (2, .int v2), (3, .int v3)] [] h :=
  lp_ok (P := P_Water_slacksOf_4 G X h) (O := (O_Water_slacksOf G X h)) (fun q r hm O => w_Water_slacksOf_4 C O hm) hm O
theorem w_Water_slacksOf {G : jG} {X : jX} (C : jC G X cX9_slacksOf 4 RX9 3 113) {v1 : Nat} {h : Hp} {out : Int32} (O : (O_Water_slacksOf G X h) out) (hm : s_Water_slacksOf v1 h = some out) : J G X 0 [(0, .ref (G.1 + 50)), (1, .ref (G.1 + v1))] [] h := by
  unfold s_Water_slacksOf at hm
  refine j_iconst C 0 dX9_slacksOf_0 (by decide) ?_
  refine j_istore_n C [(2, .int ((0 : Int32))), (0, .ref (G.1 + 50)), (1, .ref (G.1 + v1))] dX9_slacksOf_1 rfl (by decide) rfl ?_
  refine j_iconst C 0 dX9_slacksOf_2 (by decide) ?_
  refine j_istore_n C [(3, .int ((0 : Int32))), (2, .int ((0 : Int32))), (0, .ref (G.1 + 50)), (1, .ref (G.1 + v1))] dX9_slacksOf_3 rfl (by decide) rfl ?_
  refine j_sub (L' := [(0, .ref (G.1 + 50)), (1, .ref (G.1 + v1)), (2, .int ((0 : Int32))), (3, .int ((0 : Int32)))]) [2, 3, 1, 0] rfl ?_
  exact k_Water_slacksOf_4 C O hm
theorem c_Water_slacksOf {G : jG} {l : Launch} {v1 : Nat} {h : Hp} {out : Int32} (hm : s_Water_slacksOf v1 h = some out) : mt G l yX9_slacksOf cX9_slacksOf 4 (some .int) 3 113 [.ref (G.1 + 50), .ref (G.1 + v1)] h (some (.int out)) h :=
  mt_of (by decide) (Nat.le_of_ble_eq_true rfl) _ rfl (fun X I C O => w_Water_slacksOf C O hm)
noncomputable def s_Race_day (v1 : Int32) (h : Hp) : Option (Int32 × Hp) :=
  (s_Race_isWithin v1 ((0 : Int32)) ((1000000 : Int32)) h).bind fun u1 => if u1 = 0 then
    (s_Race_refuse ((-1 : Int32)) h).bind fun u7 => some (u7.1, u7.2)
  else
    (s_Water_drawDay v1 h).bind fun u2 => nn (hR u2 50 8) fun r3 => (s_Water_slacksOf r3 u2).bind fun u5 => (s_Race_grant u5 u2).bind fun u6 => some (u6.1, u6.2)
def O_Race_day (G : jG) (X : jX) (out : (Int32 × Hp)) : Prop := jO G X (some .int) (some (.int out.1)) out.2
theorem w_Race_day {G : jG} {X : jX} (C : jC G X cX11_day 2 RX11 7 233) {v1 : Int32} {h : Hp} {out : (Int32 × Hp)} (O : (O_Race_day G X) out) (hm : s_Race_day v1 h = some out) : J G X 0 [(0, .ref (G.1 + 0)), (1, .int v1)] [] h := by
  unfold s_Race_day at hm
  refine j_iload_n C 1 dX11_day_0 rfl rfl ?_
  refine j_iconst C 0 dX11_day_1 (by decide) ?_
  refine j_ldc_w C wd_1288 dX11_day_2 ?_
  refine j_cS C l_X11_102 [.int v1, .int ((0 : Int32)), .int ((1000000 : Int32))] [] (fun u1 => some (.int u1)) (fun _ => h) (fun u1 => [.int u1]) hm (fun l u hu => c_Race_isWithin hu) rfl (Nat.le_of_ble_eq_true rfl) rfl (Nat.le_of_ble_eq_true rfl) (Nat.le_of_ble_eq_true rfl) (fun _ => rfl) dX11_day_5 (fun u1 hm => ?_)
  refine j_ifne C 17 dX11_day_8 (by decide) hm (fun hm => ?_) (fun hm => ?_)
  · refine j_aload_n C 0 dX11_day_11 rfl rfl ?_
    refine j_iconst C (-1 : Int32) dX11_day_12 (by decide) ?_
    refine j_cV C l_X11_112 [.int ((-1 : Int32))] [] (fun u7 => some (.int u7.1)) (fun u7 => u7.2) (fun u7 => [.int u7.1]) n_0 hm (fun l u hu => c_Race_refuse hu) rfl (Nat.le_of_ble_eq_true rfl) rfl (Nat.le_of_ble_eq_true rfl) (Nat.le_of_ble_eq_true rfl) (fun _ => rfl) dX11_day_13 (fun u7 hm => ?_)
    obtain rfl := Option.some.inj hm
    exact j_iret C O dX11_day_16
  · refine j_aload_n C 0 dX11_day_17 rfl rfl ?_
    refine j_gS C f_X11_45 n_0 q_0_5 dX11_day_18 ?_
    refine j_iload_n C 1 dX11_day_21 rfl rfl ?_
    refine j_cV C l_X11_363 [.int v1] [] (fun _ => none) (fun u2 => u2) (fun u2 => []) n_50 hm (fun l u hu => c_Water_drawDay hu) rfl (Nat.le_of_ble_eq_true rfl) rfl (Nat.le_of_ble_eq_true rfl) (Nat.le_of_ble_eq_true rfl) (fun _ => rfl) dX11_day_22 (fun u2 hm => ?_)
    refine j_aload_n C 0 dX11_day_25 rfl rfl ?_
    refine j_aload_n C 0 dX11_day_26 rfl rfl ?_
    refine j_gS C f_X11_45 n_0 q_0_5 dX11_day_27 ?_
    refine j_aload_n C 0 dX11_day_30 rfl rfl ?_
    refine j_gS C f_X11_45 n_0 q_0_5 dX11_day_31 ?_
    refine j_gR C f_X11_366 n_50 q_50_8 dX11_day_34 ?_
    obtain ⟨r3, c4, hm⟩ := nn_inv hm
    rw [c4]
    change J G X _ _ _ _
    refine j_cV C l_X11_209 [.ref (G.1 + r3)] [.ref (G.1 + 0)] (fun u5 => some (.int u5)) (fun _ => u2) (fun u5 => [.int u5, .ref (G.1 + 0)]) n_50 hm (fun l u hu => c_Water_slacksOf hu) rfl (Nat.le_of_ble_eq_true rfl) rfl (Nat.le_of_ble_eq_true rfl) (Nat.le_of_ble_eq_true rfl) (fun _ => rfl) dX11_day_37 (fun u5 hm => ?_)
    refine j_cV C l_X11_122 [.int u5] [] (fun u6 => some (.int u6.1)) (fun u6 => u6.2) (fun u6 => [.int u6.1]) n_0 hm (fun l u hu => c_Race_grant hu) rfl (Nat.le_of_ble_eq_true rfl) rfl (Nat.le_of_ble_eq_true rfl) (Nat.le_of_ble_eq_true rfl) (fun _ => rfl) dX11_day_40 (fun u6 hm => ?_)
    obtain rfl := Option.some.inj hm
    exact j_iret C O dX11_day_43
theorem c_Race_day {G : jG} {l : Launch} {v1 : Int32} {h : Hp} {out : (Int32 × Hp)} (hm : s_Race_day v1 h = some out) : mt G l yX11_day cX11_day 2 (some .int) 7 233 [.ref (G.1 + 0), .int v1] h (some (.int out.1)) out.2 :=
  mt_of (by decide) (Nat.le_of_ble_eq_true rfl) _ rfl (fun X I C O => w_Race_day C O hm)
noncomputable def s_Ways_canMove_49 (s0 : Int32) (h : Hp) : Option Int32 :=
  bz s0 <| some (s0)
noncomputable def s_Ways_canMove_71 (s0 : Int32) (h : Hp) : Option Int32 :=
  bz s0 <| some (s0)
noncomputable def s_Ways_canMove_85 (s0 : Int32) (h : Hp) : Option Int32 :=
  bz s0 <| some (s0)
noncomputable def s_Ways_canMove (v1 : Int32) (v2 : Int32) (v3 : Int32) (h : Hp) : Option Int32 :=
  if v1 = 1 then
    ib ((6 : Int32)) 11 <| if (v3 + v2) < (hI h 4 (ix ((6 : Int32)))) then
      s_Ways_canMove_49 ((0 : Int32)) h
    else
      s_Ways_canMove_49 ((1 : Int32)) h
  else if v1 = 2 then
    ib ((6 : Int32)) 11 <| if (v3 - v2) < (hI h 4 (ix ((6 : Int32)))) then
      s_Ways_canMove_71 ((0 : Int32)) h
    else
      s_Ways_canMove_71 ((1 : Int32)) h
  else 
    if v3 < (z_abs v2) then
      s_Ways_canMove_85 ((0 : Int32)) h
    else
      s_Ways_canMove_85 ((1 : Int32)) h
def O_Ways_canMove (G : jG) (X : jX) (h : Hp) (out : Int32) : Prop := jO G X (some .boolean) (some (.int out)) h
theorem w_Ways_canMove_49 {G : jG} {X : jX} (C : jC G X cX10_canMove 4 RX10 1 70) {s0 : Int32} {h : Hp} {out : Int32} (O : (O_Ways_canMove G X h) out) (hm : s_Ways_canMove_49 s0 h = some out) : J G X 49 [] [.int s0] h := by
  unfold s_Ways_canMove_49 at hm
  obtain ⟨cz, hm⟩ := bz_inv hm
  obtain rfl := Option.some.inj hm
  exact j_zret C O cz dX10_canMove_49
theorem w_Ways_canMove_71 {G : jG} {X : jX} (C : jC G X cX10_canMove 4 RX10 1 70) {s0 : Int32} {h : Hp} {out : Int32} (O : (O_Ways_canMove G X h) out) (hm : s_Ways_canMove_71 s0 h = some out) : J G X 71 [] [.int s0] h := by
  unfold s_Ways_canMove_71 at hm
  obtain ⟨cz, hm⟩ := bz_inv hm
  obtain rfl := Option.some.inj hm
  exact j_zret C O cz dX10_canMove_71
theorem w_Ways_canMove_85 {G : jG} {X : jX} (C : jC G X cX10_canMove 4 RX10 1 70) {s0 : Int32} {h : Hp} {out : Int32} (O : (O_Ways_canMove G X h) out) (hm : s_Ways_canMove_85 s0 h = some out) : J G X 85 [] [.int s0] h := by
  unfold s_Ways_canMove_85 at hm
  obtain ⟨cz, hm⟩ := bz_inv hm
  obtain rfl := Option.some.inj hm
  exact j_zret C O cz dX10_canMove_85
theorem w_Ways_canMove {G : jG} {X : jX} (C : jC G X cX10_canMove 4 RX10 1 70) {v1 : Int32} {v2 : Int32} {v3 : Int32} {h : Hp} {out : Int32} (O : (O_Ways_canMove G X h) out) (hm : s_Ways_canMove v1 v2 v3 h = some out) : J G X 0 [(0, .ref (G.1 + 58)), (1, .int v1), (2, .int v2), (3, .int v3)] [] h := by
  unfold s_Ways_canMove at hm
  refine j_iload_n C 1 dX10_canMove_0 rfl rfl ?_
  rcases if_inv hm with ⟨c1, hm⟩ | ⟨c1, hm⟩
  · refine j_lkIn C (off := 27) 1 28 dX10_canMove_1 c1 (by decide) (by decide) (by decide) ?_
    refine j_iload_n C 3 dX10_canMove_28 rfl rfl ?_
    refine j_iload_n C 2 dX10_canMove_29 rfl rfl ?_
    refine j_iadd C dX10_canMove_30 ?_
    refine j_aload_n C 0 dX10_canMove_31 rfl rfl ?_
    refine j_gS C f_X10_47 n_58 q_58_0 dX10_canMove_32 ?_
    refine j_gS C f_X10_94 n_1 q_1_2 dX10_canMove_35 ?_
    refine j_bipush C 6 dX10_canMove_38 (by decide) ?_
    refine j_iald C n_4 hm dX10_canMove_40 (fun hm => ?_)
    refine j_if_icmplt C 48 dX10_canMove_41 (by decide) hm (fun hm => ?_) (fun hm => ?_)
    · refine j_iconst C 0 dX10_canMove_48 (by decide) ?_
      refine j_sub (L' := []) [] rfl ?_
      exact w_Ways_canMove_49 C O hm
    · refine j_iconst C 1 dX10_canMove_44 (by decide) ?_
      refine j_goto C 49 dX10_canMove_45 (by decide) ?_
      refine j_sub (L' := []) [] rfl ?_
      exact w_Ways_canMove_49 C O hm
  rcases if_inv hm with ⟨c2, hm⟩ | ⟨c2, hm⟩
  · refine j_lkIn C (off := 49) 2 50 dX10_canMove_1 c2 (by decide) (by decide) (by decide) ?_
    refine j_iload_n C 3 dX10_canMove_50 rfl rfl ?_
    refine j_iload_n C 2 dX10_canMove_51 rfl rfl ?_
    refine j_isub C dX10_canMove_52 ?_
    refine j_aload_n C 0 dX10_canMove_53 rfl rfl ?_
    refine j_gS C f_X10_47 n_58 q_58_0 dX10_canMove_54 ?_
    refine j_gS C f_X10_94 n_1 q_1_2 dX10_canMove_57 ?_
    refine j_bipush C 6 dX10_canMove_60 (by decide) ?_
    refine j_iald C n_4 hm dX10_canMove_62 (fun hm => ?_)
    refine j_if_icmplt C 70 dX10_canMove_63 (by decide) hm (fun hm => ?_) (fun hm => ?_)
    · refine j_iconst C 0 dX10_canMove_70 (by decide) ?_
      refine j_sub (L' := []) [] rfl ?_
      exact w_Ways_canMove_71 C O hm
    · refine j_iconst C 1 dX10_canMove_66 (by decide) ?_
      refine j_goto C 71 dX10_canMove_67 (by decide) ?_
      refine j_sub (L' := []) [] rfl ?_
      exact w_Ways_canMove_71 C O hm
  refine j_lookup C (off := 71) 72 dX10_canMove_1 (by decide) (by rw [lv_osw (a := 1) c1 (by decide), lv_osw (a := 2) c2 (by decide)]; rfl) (by decide) ?_
  refine j_iload_n C 2 dX10_canMove_72 rfl rfl ?_
  refine j_mabs C wd_1037 wd_942 wd_126 wd_943 (Nat.le_of_ble_eq_true rfl) (Nat.le_of_ble_eq_true rfl) dX10_canMove_73 ?_
  refine j_iload_n C 3 dX10_canMove_76 rfl rfl ?_
  refine j_if_icmpgt C 84 dX10_canMove_77 (by decide) hm (fun hm => ?_) (fun hm => ?_)
  · refine j_iconst C 0 dX10_canMove_84 (by decide) ?_
    refine j_sub (L' := []) [] rfl ?_
    exact w_Ways_canMove_85 C O hm
  · refine j_iconst C 1 dX10_canMove_80 (by decide) ?_
    refine j_goto C 85 dX10_canMove_81 (by decide) ?_
    refine j_sub (L' := []) [] rfl ?_
    exact w_Ways_canMove_85 C O hm
theorem c_Ways_canMove {G : jG} {l : Launch} {v1 : Int32} {v2 : Int32} {v3 : Int32} {h : Hp} {out : Int32} (hm : s_Ways_canMove v1 v2 v3 h = some out) : mt G l yX10_canMove cX10_canMove 4 (some .boolean) 1 70 [.ref (G.1 + 58), .int v1, .int v2, .int v3] h (some (.int out)) h :=
  mt_of (by decide) (Nat.le_of_ble_eq_true rfl) _ rfl (fun X I C O => w_Ways_canMove C O hm)
noncomputable def s_Ways_isOpen_35 (s0 : Int32) (h : Hp) : Option (Int32 × Hp) :=
  bz s0 <| some (s0, h)
noncomputable def s_Ways_isOpen_34 (h : Hp) : Option (Int32 × Hp) :=
  s_Ways_isOpen_35 ((0 : Int32)) h
noncomputable def s_Ways_isOpen (v1 : Int32) (v2 : Int32) (v3 : Int32) (h : Hp) : Option (Int32 × Hp) :=
  ib v1 50 <| if (hI h 5 (ix v1)) = 0 then
    s_Ways_isOpen_34 h
  else
    (s_Water_whiteOf (hI h 5 (ix v1)) v2 h).bind fun u1 => if v3 < u1.1 then
      s_Ways_isOpen_34 u1.2
    else
      s_Ways_isOpen_35 ((1 : Int32)) u1.2
def O_Ways_isOpen (G : jG) (X : jX) (out : (Int32 × Hp)) : Prop := jO G X (some .boolean) (some (.int out.1)) out.2
theorem w_Ways_isOpen_35 {G : jG} {X : jX} (C : jC G X cX10_isOpen 5 RX10 5 180) {s0 : Int32} {h : Hp} {out : (Int32 × Hp)} (O : (O_Ways_isOpen G X) out) (hm : s_Ways_isOpen_35 s0 h = some out) : J G X 35 [] [.int s0] h := by
  unfold s_Ways_isOpen_35 at hm
  obtain ⟨cz, hm⟩ := bz_inv hm
  obtain rfl := Option.some.inj hm
  exact j_zret C O cz dX10_isOpen_35
theorem w_Ways_isOpen_34 {G : jG} {X : jX} (C : jC G X cX10_isOpen 5 RX10 5 180) {h : Hp} {out : (Int32 × Hp)} (O : (O_Ways_isOpen G X) out) (hm : s_Ways_isOpen_34 h = some out) : J G X 34 [] [] h := by
  unfold s_Ways_isOpen_34 at hm
  refine j_iconst C 0 dX10_isOpen_34 (by decide) ?_
  refine j_sub (L' := []) [] rfl ?_
  exact w_Ways_isOpen_35 C O hm
theorem w_Ways_isOpen {G : jG} {X : jX} (C : jC G X cX10_isOpen 5 RX10 5 180) {v1 : Int32} {v2 : Int32} {v3 : Int32} {h : Hp} {out : (Int32 × Hp)} (O : (O_Ways_isOpen G X) out) (hm : s_Ways_isOpen v1 v2 v3 h = some out) : J G X 0 [(0, .ref (G.1 + 58)), (1, .int v1), (2, .int v2), (3, .int v3)] [] h := by
  unfold s_Ways_isOpen at hm
  refine j_aload_n C 0 dX10_isOpen_0 rfl rfl ?_
  refine j_gS C f_X10_47 n_58 q_58_0 dX10_isOpen_1 ?_
  refine j_gS C f_X10_64 n_1 q_1_3 dX10_isOpen_4 ?_
  refine j_iload_n C 1 dX10_isOpen_7 rfl rfl ?_
  refine j_iald C n_5 hm dX10_isOpen_8 (fun hm => ?_)
  refine j_istore C [(4, .int (hI h 5 (ix v1))), (0, .ref (G.1 + 58)), (1, .int v1), (2, .int v2), (3, .int v3)] dX10_isOpen_9 (by decide) rfl ?_
  refine j_iload C 0 dX10_isOpen_11 rfl ?_
  refine j_ifeq C 34 dX10_isOpen_13 (by decide) hm (fun hm => ?_) (fun hm => ?_)
  · refine j_sub (L' := []) [] rfl ?_
    exact w_Ways_isOpen_34 C O hm
  · refine j_aload_n C 1 dX10_isOpen_16 rfl rfl ?_
    refine j_gS C f_X10_51 n_58 q_58_1 dX10_isOpen_17 ?_
    refine j_iload C 0 dX10_isOpen_20 rfl ?_
    refine j_iload_n C 3 dX10_isOpen_22 rfl rfl ?_
    refine j_cV C l_X10_85 [.int (hI h 5 (ix v1)), .int v2] [] (fun u1 => some (.int u1.1)) (fun u1 => u1.2) (fun u1 => [.int u1.1]) n_50 hm (fun l u hu => c_Water_whiteOf hu) rfl (Nat.le_of_ble_eq_true rfl) rfl (Nat.le_of_ble_eq_true rfl) (Nat.le_of_ble_eq_true rfl) (fun _ => rfl) dX10_isOpen_23 (fun u1 hm => ?_)
    refine j_iload_n C 4 dX10_isOpen_26 rfl rfl ?_
    refine j_if_icmpgt C 34 dX10_isOpen_27 (by decide) hm (fun hm => ?_) (fun hm => ?_)
    · refine j_sub (L' := []) [] rfl ?_
      exact w_Ways_isOpen_34 C O hm
    · refine j_iconst C 1 dX10_isOpen_30 (by decide) ?_
      refine j_goto C 35 dX10_isOpen_31 (by decide) ?_
      refine j_sub (L' := []) [] rfl ?_
      exact w_Ways_isOpen_35 C O hm
theorem c_Ways_isOpen {G : jG} {l : Launch} {v1 : Int32} {v2 : Int32} {v3 : Int32} {h : Hp} {out : (Int32 × Hp)} (hm : s_Ways_isOpen v1 v2 v3 h = some out) : mt G l yX10_isOpen cX10_isOpen 5 (some .boolean) 5 180 [.ref (G.1 + 58), .int v1, .int v2, .int v3] h (some (.int out.1)) out.2 :=
  mt_of (by decide) (Nat.le_of_ble_eq_true rfl) _ rfl (fun X I C O => w_Ways_isOpen C O hm)
noncomputable def s_Ways_slipped (v0 : Int32) (v1 : Int32) (h : Hp) : Option Int32 :=
  (s_Race_nearest ((v0 * ((10 : Int32))) + v1) ((0 : Int32)) ((1439 : Int32)) h).bind fun u1 => some (u1)
def O_Ways_slipped (G : jG) (X : jX) (h : Hp) (out : Int32) : Prop := jO G X (some .int) (some (.int out)) h
theorem w_Ways_slipped {G : jG} {X : jX} (C : jC G X cX10_slipped 2 RX10 2 92) {v0 : Int32} {v1 : Int32} {h : Hp} {out : Int32} (O : (O_Ways_slipped G X h) out) (hm : s_Ways_slipped v0 v1 h = some out) : J G X 0 [(0, .int v0), (1, .int v1)] [] h := by
  unfold s_Ways_slipped at hm
  refine j_iload_n C 0 dX10_slipped_0 rfl rfl ?_
  refine j_bipush C 10 dX10_slipped_1 (by decide) ?_
  refine j_imul C dX10_slipped_3 ?_
  refine j_iload_n C 1 dX10_slipped_4 rfl rfl ?_
  refine j_iadd C dX10_slipped_5 ?_
  refine j_iconst C 0 dX10_slipped_6 (by decide) ?_
  refine j_sipush C 1439 dX10_slipped_7 (by decide) ?_
  refine j_cN C l_X10_163 [.int ((v0 * ((10 : Int32))) + v1), .int ((0 : Int32)), .int ((1439 : Int32))] [] (fun u1 => some (.int u1)) (fun _ => h) (fun u1 => [.int u1]) hm (fun l u hu => c_Race_nearest hu) rfl (Nat.le_of_ble_eq_true rfl) rfl (Nat.le_of_ble_eq_true rfl) (Nat.le_of_ble_eq_true rfl) (fun _ => rfl) dX10_slipped_10 (fun u1 hm => ?_)
  obtain rfl := Option.some.inj hm
  exact j_iret C O dX10_slipped_13
theorem c_Ways_slipped {G : jG} {l : Launch} {v0 : Int32} {v1 : Int32} {h : Hp} {out : Int32} (hm : s_Ways_slipped v0 v1 h = some out) : mt G l yX10_slipped cX10_slipped 2 (some .int) 2 92 [.int v0, .int v1] h (some (.int out)) h :=
  mt_of (by decide) (Nat.le_of_ble_eq_true rfl) _ rfl (fun X I C O => w_Ways_slipped C O hm)
noncomputable def s_Ways_movesDone_99 (v9 : Int32) (h : Hp) : Option (Int32 × Hp) :=
  some (v9, h)
noncomputable def s_Ways_movesDone_162 (v9 : Int32) (h : Hp) : Option (Int32 × Hp) :=
  some (v9, h)
noncomputable def s_Ways_movesDone_50 (v2 : Int32) (v4 : Int32) (v5 : Int32) (v6 : Int32) (v7 : Int32) (v8 : Int32) (v9 : Int32) (h : Hp) : Option ((Int32 × Int32 × Int32 × Int32 × Int32 × Int32 × Int32 × Hp) ⊕ (Int32 × Hp)) :=
  if (hI h 1 16) ≤ v9 then
    some (.inr (hI h 1 16, h))
  else
    ib v9 40 <| (s_Ways_cellBy (hI h 9 (ix v9)) v8 h).bind fun u1 => if ((143 : Int32)) ≤ (v2 + v9) then
      inr (s_Ways_movesDone_99 v9 h)
    else
      if u1 = ((-1 : Int32)) then
        inr (s_Ways_movesDone_99 v9 h)
      else
        ib v8 50 <| (s_Water_flowOf (hI h 5 (ix v8)) v7 h).bind fun u2 => (s_Ways_slipped ((v2 + v9) + ((1 : Int32))) v4 h).bind fun u3 => (s_Ways_canMove (hI h 9 (ix v9)) u2 v5 h).bind fun u4 => if u4 = 0 then
          inr (s_Ways_movesDone_162 v9 h)
        else
          (s_Ways_isOpen u1 u3 v6 h).bind fun u5 => if u5.1 = 0 then
            inr (s_Ways_movesDone_162 v9 u5.2)
          else
            some (.inl (v2, v4, v5, v6, u3, u1, (v9 + (1 : Int32)), u5.2))
noncomputable def s_Ways_movesDone (v1 : Int32) (v2 : Int32) (v3 : Int32) (v4 : Int32) (h : Hp) : Option (Int32 × Hp) :=
  ib v1 6 <| ib v1 6 <| (s_Ways_slipped v2 v4 h).bind fun u1 => (s_Ways_isOpen v3 u1 (hI h 8 (ix v1)) h).bind fun u2 => if u2.1 = 0 then
    some ((-1 : Int32), u2.2)
  else
    lp (fun q => s_Ways_movesDone_50 q.1 q.2.1 q.2.2.1 q.2.2.2.1 q.2.2.2.2.1 q.2.2.2.2.2.1 q.2.2.2.2.2.2.1 q.2.2.2.2.2.2.2) (v2, v4, (hI h 7 (ix v1)), (hI h 8 (ix v1)), u1, v3, ((0 : Int32)), u2.2)
def O_Ways_movesDone (G : jG) (X : jX) (out : (Int32 × Hp)) : Prop := jO G X (some .int) (some (.int out.1)) out.2
def P_Ways_movesDone_50 (G : jG) (X : jX) (q : Int32 × Int32 × Int32 × Int32 × Int32 × Int32 × Int32 × Hp) : Prop := J G X 50 [(0, .ref (G.1 + 58)), (2, .int q.1), (4, .int q.2.1), (5, .int q.2.2.1), (6, .int q.2.2.2.1), (7, .int q.2.2.2.2.1), (8, .int q.2.2.2.2.2.1), (9, .int q.2.2.2.2.2.2.1)] [] q.2.2.2.2.2.2.2
def O_Ways_movesDone_50 (G : jG) (X : jX) (t : ((Int32 × Int32 × Int32 × Int32 × Int32 × Int32 × Int32 × Hp) ⊕ (Int32 × Hp))) : Prop := Sum.elim (P_Ways_movesDone_50 G X) (O_Ways_movesDone G X) t
theorem w_Ways_movesDone_99 {G : jG} {X : jX} (C : jC G X cX10_movesDone 13 RX10 6 204) {v9 : Int32} {h : Hp} {out : (Int32 × Hp)} (O : (O_Ways_movesDone G X) out) (hm : s_Ways_movesDone_99 v9 h = some out) : J G X 99 [(9, .int v9)] [] h := by
  unfold s_Ways_movesDone_99 at hm
  refine j_iload C 0 dX10_movesDone_99 rfl ?_
  obtain rfl := Option.some.inj hm
  exact j_iret C O dX10_movesDone_101
theorem w_Ways_movesDone_162 {G : jG} {X : jX} (C : jC G X cX10_movesDone 13 RX10 6 204) {v9 : Int32} {h : Hp} {out : (Int32 × Hp)} (O : (O_Ways_movesDone G X) out) (hm : s_Ways_movesDone_162 v9 h = some out) : J G X 162 [(9, .int v9)] [] h := by
  unfold s_Ways_movesDone_162 at hm
  refine j_iload C 0 dX10_movesDone_162 rfl ?_
  obtain rfl := Option.some.inj hm
  exact j_iret C O dX10_movesDone_164
theorem w_Ways_movesDone_50 {G : jG} {X : jX} (C : jC G X cX10_movesDone 13 RX10 6 204) {v2 : Int32} {v4 : Int32} {v5 : Int32} {v6 : Int32} {v7 : Int32} {v8 : Int32} {v9 : Int32} {h : Hp} {out : ((Int32 × Int32 × Int32 × Int32 × Int32 × Int32 × Int32 × Hp) ⊕ (Int32 × Hp))} (O : (O_Ways_movesDone_50 G X) out) (hm : s_Ways_movesDone_50 v2 v4 v5 v6 v7 v8 v9 h = some out) : J G X 50 [(0, .ref (G.1 + 58)), (2, .int v2), (4, .int v4), (5, .int v5), (6, .int v6), (7, .int v7), (8, .int v8), (9, .int v9)] [] h := by
  unfold s_Ways_movesDone_50 at hm
  refine j_iload C 7 dX10_movesDone_50 rfl ?_
  refine j_aload_n C 0 dX10_movesDone_52 rfl rfl ?_
  refine j_gS C f_X10_47 n_58 q_58_0 dX10_movesDone_53 ?_
  refine j_gI C f_X10_149 n_1 dX10_movesDone_56 ?_
  refine j_if_icmpge C 175 dX10_movesDone_59 (by decide) hm (fun hm => ?_) (fun hm => ?_)
  · refine j_aload_n C 0 dX10_movesDone_175 rfl rfl ?_
    refine j_gS C f_X10_47 n_58 q_58_0 dX10_movesDone_176 ?_
    refine j_gI C f_X10_149 n_1 dX10_movesDone_179 ?_
    obtain rfl := Option.some.inj hm
    exact j_iret C O dX10_movesDone_182
  · refine j_aload_n C 0 dX10_movesDone_62 rfl rfl ?_
    refine j_gS C f_X10_47 n_58 q_58_0 dX10_movesDone_63 ?_
    refine j_gS C f_X10_153 n_1 q_1_7 dX10_movesDone_66 ?_
    refine j_iload C 7 dX10_movesDone_69 rfl ?_
    refine j_iald C n_9 hm dX10_movesDone_71 (fun hm => ?_)
    refine j_istore C [(10, .int (hI h 9 (ix v9))), (0, .ref (G.1 + 58)), (2, .int v2), (4, .int v4), (5, .int v5), (6, .int v6), (7, .int v7), (8, .int v8), (9, .int v9)] dX10_movesDone_72 (by decide) rfl ?_
    refine j_iload C 0 dX10_movesDone_74 rfl ?_
    refine j_iload C 7 dX10_movesDone_76 rfl ?_
    refine j_cS C l_X10_139 [.int (hI h 9 (ix v9)), .int v8] [] (fun u1 => some (.int u1)) (fun _ => h) (fun u1 => [.int u1]) hm (fun l u hu => c_Ways_cellBy hu) rfl (Nat.le_of_ble_eq_true rfl) rfl (Nat.le_of_ble_eq_true rfl) (Nat.le_of_ble_eq_true rfl) (fun _ => rfl) dX10_movesDone_78 (fun u1 hm => ?_)
    refine j_istore C [(11, .int u1), (10, .int (hI h 9 (ix v9))), (0, .ref (G.1 + 58)), (2, .int v2), (4, .int v4), (5, .int v5), (6, .int v6), (7, .int v7), (8, .int v8), (9, .int v9)] dX10_movesDone_81 (by decide) rfl ?_
    refine j_iload_n C 3 dX10_movesDone_83 rfl rfl ?_
    refine j_iload C 9 dX10_movesDone_84 rfl ?_
    refine j_iadd C dX10_movesDone_86 ?_
    refine j_sipush C 143 dX10_movesDone_87 (by decide) ?_
    refine j_if_icmpge C 99 dX10_movesDone_90 (by decide) hm (fun hm => ?_) (fun hm => ?_)
    · obtain ⟨o_0, hm_0, rfl⟩ := inr_inv hm
      refine j_sub (L' := [(9, .int v9)]) [9] rfl ?_
      exact w_Ways_movesDone_99 C O hm_0
    · refine j_iload C 0 dX10_movesDone_93 rfl ?_
      refine j_iconst C (-1 : Int32) dX10_movesDone_95 (by decide) ?_
      refine j_if_icmpne C 102 dX10_movesDone_96 (by decide) hm (fun hm => ?_) (fun hm => ?_)
      · obtain ⟨o_0, hm_0, rfl⟩ := inr_inv hm
        refine j_sub (L' := [(9, .int v9)]) [9] rfl ?_
        exact w_Ways_movesDone_99 C O hm_0
      · refine j_aload_n C 2 dX10_movesDone_102 rfl rfl ?_
        refine j_gS C f_X10_51 n_58 q_58_1 dX10_movesDone_103 ?_
        refine j_aload_n C 2 dX10_movesDone_106 rfl rfl ?_
        refine j_gS C f_X10_47 n_58 q_58_0 dX10_movesDone_107 ?_
        refine j_gS C f_X10_64 n_1 q_1_3 dX10_movesDone_110 ?_
        refine j_iload C 8 dX10_movesDone_113 rfl ?_
        refine j_iald C n_5 hm dX10_movesDone_115 (fun hm => ?_)
        refine j_iload C 7 dX10_movesDone_116 rfl ?_
        refine j_cV C l_X10_79 [.int (hI h 5 (ix v8)), .int v7] [] (fun u2 => some (.int u2)) (fun _ => h) (fun u2 => [.int u2]) n_50 hm (fun l u hu => c_Water_flowOf hu) rfl (Nat.le_of_ble_eq_true rfl) rfl (Nat.le_of_ble_eq_true rfl) (Nat.le_of_ble_eq_true rfl) (fun _ => rfl) dX10_movesDone_118 (fun u2 hm => ?_)
        refine j_istore C [(12, .int u2), (11, .int u1), (10, .int (hI h 9 (ix v9))), (0, .ref (G.1 + 58)), (2, .int v2), (4, .int v4), (5, .int v5), (6, .int v6), (7, .int v7), (8, .int v8), (9, .int v9)] dX10_movesDone_121 (by decide) rfl ?_
        refine j_iload_n C 4 dX10_movesDone_123 rfl rfl ?_
        refine j_iload C 10 dX10_movesDone_124 rfl ?_
        refine j_iadd C dX10_movesDone_126 ?_
        refine j_iconst C 1 dX10_movesDone_127 (by decide) ?_
        refine j_iadd C dX10_movesDone_128 ?_
        refine j_iload C 5 dX10_movesDone_129 rfl ?_
        refine j_cS C l_X10_142 [.int ((v2 + v9) + ((1 : Int32))), .int v4] [] (fun u3 => some (.int u3)) (fun _ => h) (fun u3 => [.int u3]) hm (fun l u hu => c_Ways_slipped hu) rfl (Nat.le_of_ble_eq_true rfl) rfl (Nat.le_of_ble_eq_true rfl) (Nat.le_of_ble_eq_true rfl) (fun _ => rfl) dX10_movesDone_131 (fun u3 hm => ?_)
        refine j_istore C [(7, .int u3), (12, .int u2), (11, .int u1), (10, .int (hI h 9 (ix v9))), (0, .ref (G.1 + 58)), (2, .int v2), (4, .int v4), (5, .int v5), (6, .int v6), (8, .int v8), (9, .int v9)] dX10_movesDone_134 (by decide) rfl ?_
        refine j_aload_n C 4 dX10_movesDone_136 rfl rfl ?_
        refine j_iload C 3 dX10_movesDone_137 rfl ?_
        refine j_iload C 1 dX10_movesDone_139 rfl ?_
        refine j_iload C 7 dX10_movesDone_141 rfl ?_
        refine j_cV C l_X10_156 [.int (hI h 9 (ix v9)), .int u2, .int v5] [] (fun u4 => some (.int u4)) (fun _ => h) (fun u4 => [.int u4]) n_58 hm (fun l u hu => c_Ways_canMove hu) rfl (Nat.le_of_ble_eq_true rfl) rfl (Nat.le_of_ble_eq_true rfl) (Nat.le_of_ble_eq_true rfl) (fun _ => rfl) dX10_movesDone_143 (fun u4 hm => ?_)
        refine j_ifeq C 162 dX10_movesDone_146 (by decide) hm (fun hm => ?_) (fun hm => ?_)
        · obtain ⟨o_0, hm_0, rfl⟩ := inr_inv hm
          refine j_sub (L' := [(9, .int v9)]) [10] rfl ?_
          exact w_Ways_movesDone_162 C O hm_0
        · refine j_aload_n C 4 dX10_movesDone_149 rfl rfl ?_
          refine j_iload C 2 dX10_movesDone_150 rfl ?_
          refine j_iload C 0 dX10_movesDone_152 rfl ?_
          refine j_iload C 8 dX10_movesDone_154 rfl ?_
          refine j_cV C l_X10_145 [.int u1, .int u3, .int v6] [] (fun u5 => some (.int u5.1)) (fun u5 => u5.2) (fun u5 => [.int u5.1]) n_58 hm (fun l u hu => c_Ways_isOpen hu) rfl (Nat.le_of_ble_eq_true rfl) rfl (Nat.le_of_ble_eq_true rfl) (Nat.le_of_ble_eq_true rfl) (fun _ => rfl) dX10_movesDone_156 (fun u5 hm => ?_)
          refine j_ifne C 165 dX10_movesDone_159 (by decide) hm (fun hm => ?_) (fun hm => ?_)
          · obtain ⟨o_0, hm_0, rfl⟩ := inr_inv hm
            refine j_sub (L' := [(9, .int v9)]) [10] rfl ?_
            exact w_Ways_movesDone_162 C O hm_0
          · refine j_iload C 2 dX10_movesDone_165 rfl ?_
            refine j_istore C [(8, .int u1), (7, .int u3), (12, .int u2), (11, .int u1), (10, .int (hI h 9 (ix v9))), (0, .ref (G.1 + 58)), (2, .int v2), (4, .int v4), (5, .int v5), (6, .int v6), (9, .int v9)] dX10_movesDone_167 (by decide) rfl ?_
            refine j_iinc C 10 [(9, .int (v9 + (1 : Int32))), (8, .int u1), (7, .int u3), (12, .int u2), (11, .int u1), (10, .int (hI h 9 (ix v9))), (0, .ref (G.1 + 58)), (2, .int v2), (4, .int v4), (5, .int v5), (6, .int v6)] dX10_movesDone_169 rfl (add_lit (by decide)) (by decide) rfl ?_
            refine j_goto C 50 dX10_movesDone_172 (by decide) ?_
            obtain rfl := Option.some.inj hm
            refine j_sub (L' := [(0, .ref (G.1 + 58)), (2, .int v2), (4, .int v4), (5, .int v5), (6, .int v6), (7, .int u3), (8, .int u1), (9, .int (v9 + (1 : Int32)))]) [6, 7, 8, 9, 10, 2, 1, 0] rfl ?_
            exact O
theorem k_Ways_movesDone_50 {G : jG} {X : jX} (C : jC G X cX10_movesDone 13 RX10 6 204) {v2 : Int32} {v4 : Int32} {v5 : Int32} {v6 : Int32} {v7 : Int32} {v8 : Int32} {v9 : Int32} {h : Hp} {out : (Int32 × Hp)} (O : (O_Ways_movesDone G X) out) (hm : lp (fun q => s_Ways_movesDone_50 q.1 q.2.1 q.2.2.1 q.2.2.2.1 q.2.2.2.2.1 q.2.2.2.2.2.1 q.2.2.2.2.2.2.1 q.2.2.2.2.2.2.2) (v2, v4, v5, v6, v7, v8, v9, h) = some out) : J G X 50 [(0, .ref (G.1 + 58)), (2, .int v2), (4, .int v4), (5, .int v5), (6, .int v6), (7, .int v7), (8, .int v8), (9, .int v9)] [] h :=
  lp_ok (P := P_Ways_movesDone_50 G X) (O := (O_Ways_movesDone G X)) (fun q r hm O => w_Ways_movesDone_50 C O hm) hm O
theorem w_Ways_movesDone {G : jG} {X : jX} (C : jC G X cX10_movesDone 13 RX10 6 204) {v1 : Int32} {v2 : Int32} {v3 : Int32} {v4 : Int32} {h : Hp} {out : (Int32 × Hp)} (O : (O_Ways_movesDone G X) out) (hm : s_Ways_movesDone v1 v2 v3 v4 h = some out) : J G X 0 [(0, .ref (G.1 + 58)), (1, .int v1), (2, .int v2), (3, .int v3), (4, .int v4)] [] h := by
  unfold s_Ways_movesDone at hm
  refine j_aload_n C 0 dX10_movesDone_0 rfl rfl ?_
  refine j_gS C f_X10_47 n_58 q_58_0 dX10_movesDone_1 ?_
  refine j_gS C f_X10_69 n_1 q_1_5 dX10_movesDone_4 ?_
  refine j_iload_n C 1 dX10_movesDone_7 rfl rfl ?_
  refine j_iald C n_7 hm dX10_movesDone_8 (fun hm => ?_)
  refine j_istore C [(5, .int (hI h 7 (ix v1))), (0, .ref (G.1 + 58)), (1, .int v1), (2, .int v2), (3, .int v3), (4, .int v4)] dX10_movesDone_9 (by decide) rfl ?_
  refine j_aload_n C 1 dX10_movesDone_11 rfl rfl ?_
  refine j_gS C f_X10_47 n_58 q_58_0 dX10_movesDone_12 ?_
  refine j_gS C f_X10_72 n_1 q_1_6 dX10_movesDone_15 ?_
  refine j_iload_n C 2 dX10_movesDone_18 rfl rfl ?_
  refine j_iald C n_8 hm dX10_movesDone_19 (fun hm => ?_)
  refine j_istore C [(6, .int (hI h 8 (ix v1))), (5, .int (hI h 7 (ix v1))), (0, .ref (G.1 + 58)), (1, .int v1), (2, .int v2), (3, .int v3), (4, .int v4)] dX10_movesDone_20 (by decide) rfl ?_
  refine j_iload_n C 4 dX10_movesDone_22 rfl rfl ?_
  refine j_iload C 6 dX10_movesDone_23 rfl ?_
  refine j_cS C l_X10_142 [.int v2, .int v4] [] (fun u1 => some (.int u1)) (fun _ => h) (fun u1 => [.int u1]) hm (fun l u hu => c_Ways_slipped hu) rfl (Nat.le_of_ble_eq_true rfl) rfl (Nat.le_of_ble_eq_true rfl) (Nat.le_of_ble_eq_true rfl) (fun _ => rfl) dX10_movesDone_25 (fun u1 hm => ?_)
  refine j_istore C [(7, .int u1), (6, .int (hI h 8 (ix v1))), (5, .int (hI h 7 (ix v1))), (0, .ref (G.1 + 58)), (1, .int v1), (2, .int v2), (3, .int v3), (4, .int v4)] dX10_movesDone_28 (by decide) rfl ?_
  refine j_aload_n C 3 dX10_movesDone_30 rfl rfl ?_
  refine j_iload_n C 6 dX10_movesDone_31 rfl rfl ?_
  refine j_iload C 0 dX10_movesDone_32 rfl ?_
  refine j_iload C 1 dX10_movesDone_34 rfl ?_
  refine j_cV C l_X10_145 [.int v3, .int u1, .int (hI h 8 (ix v1))] [] (fun u2 => some (.int u2.1)) (fun u2 => u2.2) (fun u2 => [.int u2.1]) n_58 hm (fun l u hu => c_Ways_isOpen hu) rfl (Nat.le_of_ble_eq_true rfl) rfl (Nat.le_of_ble_eq_true rfl) (Nat.le_of_ble_eq_true rfl) (fun _ => rfl) dX10_movesDone_36 (fun u2 hm => ?_)
  refine j_ifne C 44 dX10_movesDone_39 (by decide) hm (fun hm => ?_) (fun hm => ?_)
  · refine j_iconst C (-1 : Int32) dX10_movesDone_42 (by decide) ?_
    obtain rfl := Option.some.inj hm
    exact j_iret C O dX10_movesDone_43
  · refine j_iload_n C 6 dX10_movesDone_44 rfl rfl ?_
    refine j_istore C [(8, .int v3), (7, .int u1), (6, .int (hI h 8 (ix v1))), (5, .int (hI h 7 (ix v1))), (0, .ref (G.1 + 58)), (1, .int v1), (2, .int v2), (3, .int v3), (4, .int v4)] dX10_movesDone_45 (by decide) rfl ?_
    refine j_iconst C 0 dX10_movesDone_47 (by decide) ?_
    refine j_istore C [(9, .int ((0 : Int32))), (8, .int v3), (7, .int u1), (6, .int (hI h 8 (ix v1))), (5, .int (hI h 7 (ix v1))), (0, .ref (G.1 + 58)), (1, .int v1), (2, .int v2), (3, .int v3), (4, .int v4)] dX10_movesDone_48 (by decide) rfl ?_
    refine j_sub (L' := [(0, .ref (G.1 + 58)), (2, .int v2), (4, .int v4), (5, .int (hI h 7 (ix v1))), (6, .int (hI h 8 (ix v1))), (7, .int u1), (8, .int v3), (9, .int ((0 : Int32)))]) [5, 7, 9, 4, 3, 2, 1, 0] rfl ?_
    exact k_Ways_movesDone_50 C O hm
theorem c_Ways_movesDone {G : jG} {l : Launch} {v1 : Int32} {v2 : Int32} {v3 : Int32} {v4 : Int32} {h : Hp} {out : (Int32 × Hp)} (hm : s_Ways_movesDone v1 v2 v3 v4 h = some out) : mt G l yX10_movesDone cX10_movesDone 13 (some .int) 6 204 [.ref (G.1 + 58), .int v1, .int v2, .int v3, .int v4] h (some (.int out.1)) out.2 :=
  mt_of (by decide) (Nat.le_of_ble_eq_true rfl) _ rfl (fun X I C O => w_Ways_movesDone C O hm)
noncomputable def s_Race_done_34 (h : Hp) : Option (Int32 × Hp) :=
  some ((-1 : Int32), h)
noncomputable def s_Race_done (v1 : Int32) (v2 : Int32) (v3 : Int32) (v4 : Int32) (h : Hp) : Option (Int32 × Hp) :=
  (s_Race_isBoat v1 h).bind fun u1 => if u1 = 0 then
    s_Race_done_34 h
  else
    (s_Race_isStep v2 h).bind fun u2 => if u2 = 0 then
      s_Race_done_34 h
    else
      (s_Race_isCell v3 h).bind fun u3 => if u3 = 0 then
        s_Race_done_34 h
      else
        (s_Race_isWithin v4 ((-60 : Int32)) ((60 : Int32)) h).bind fun u4 => if u4 = 0 then
          s_Race_done_34 h
        else
          (s_Water_freshenToday h).bind fun u5 => (s_Ways_movesDone v1 v2 v3 v4 u5).bind fun u6 => some (u6.1, u6.2)
def O_Race_done (G : jG) (X : jX) (out : (Int32 × Hp)) : Prop := jO G X (some .int) (some (.int out.1)) out.2
theorem w_Race_done_34 {G : jG} {X : jX} (C : jC G X cX11_done 5 RX11 7 236) {h : Hp} {out : (Int32 × Hp)} (O : (O_Race_done G X) out) (hm : s_Race_done_34 h = some out) : J G X 34 [] [] h := by
  unfold s_Race_done_34 at hm
  refine j_iconst C (-1 : Int32) dX11_done_34 (by decide) ?_
  obtain rfl := Option.some.inj hm
  exact j_iret C O dX11_done_35
theorem w_Race_done {G : jG} {X : jX} (C : jC G X cX11_done 5 RX11 7 236) {v1 : Int32} {v2 : Int32} {v3 : Int32} {v4 : Int32} {h : Hp} {out : (Int32 × Hp)} (O : (O_Race_done G X) out) (hm : s_Race_done v1 v2 v3 v4 h = some out) : J G X 0 [(0, .ref (G.1 + 0)), (1, .int v1), (2, .int v2), (3, .int v3), (4, .int v4)] [] h := by
  unfold s_Race_done at hm
  refine j_aload_n C 0 dX11_done_0 rfl rfl ?_
  refine j_iload_n C 1 dX11_done_1 rfl rfl ?_
  refine j_cV C l_X11_238 [.int v1] [] (fun u1 => some (.int u1)) (fun _ => h) (fun u1 => [.int u1]) n_0 hm (fun l u hu => c_Race_isBoat hu) rfl (Nat.le_of_ble_eq_true rfl) rfl (Nat.le_of_ble_eq_true rfl) (Nat.le_of_ble_eq_true rfl) (fun _ => rfl) dX11_done_2 (fun u1 hm => ?_)
  refine j_ifeq C 34 dX11_done_5 (by decide) hm (fun hm => ?_) (fun hm => ?_)
  · refine j_sub (L' := []) [] rfl ?_
    exact w_Race_done_34 C O hm
  · refine j_iload_n C 2 dX11_done_8 rfl rfl ?_
    refine j_cS C l_X11_241 [.int v2] [] (fun u2 => some (.int u2)) (fun _ => h) (fun u2 => [.int u2]) hm (fun l u hu => c_Race_isStep hu) rfl (Nat.le_of_ble_eq_true rfl) rfl (Nat.le_of_ble_eq_true rfl) (Nat.le_of_ble_eq_true rfl) (fun _ => rfl) dX11_done_9 (fun u2 hm => ?_)
    refine j_ifeq C 34 dX11_done_12 (by decide) hm (fun hm => ?_) (fun hm => ?_)
    · refine j_sub (L' := []) [] rfl ?_
      exact w_Race_done_34 C O hm
    · refine j_iload_n C 3 dX11_done_15 rfl rfl ?_
      refine j_cS C l_X11_200 [.int v3] [] (fun u3 => some (.int u3)) (fun _ => h) (fun u3 => [.int u3]) hm (fun l u hu => c_Race_isCell hu) rfl (Nat.le_of_ble_eq_true rfl) rfl (Nat.le_of_ble_eq_true rfl) (Nat.le_of_ble_eq_true rfl) (fun _ => rfl) dX11_done_16 (fun u3 hm => ?_)
      refine j_ifeq C 34 dX11_done_19 (by decide) hm (fun hm => ?_) (fun hm => ?_)
      · refine j_sub (L' := []) [] rfl ?_
        exact w_Race_done_34 C O hm
      · refine j_iload C 4 dX11_done_22 rfl ?_
        refine j_bipush C (-60 : Int32) dX11_done_24 (by decide) ?_
        refine j_bipush C 60 dX11_done_26 (by decide) ?_
        refine j_cS C l_X11_102 [.int v4, .int ((-60 : Int32)), .int ((60 : Int32))] [] (fun u4 => some (.int u4)) (fun _ => h) (fun u4 => [.int u4]) hm (fun l u hu => c_Race_isWithin hu) rfl (Nat.le_of_ble_eq_true rfl) rfl (Nat.le_of_ble_eq_true rfl) (Nat.le_of_ble_eq_true rfl) (fun _ => rfl) dX11_done_28 (fun u4 hm => ?_)
        refine j_ifne C 36 dX11_done_31 (by decide) hm (fun hm => ?_) (fun hm => ?_)
        · refine j_sub (L' := []) [] rfl ?_
          exact w_Race_done_34 C O hm
        · refine j_aload_n C 0 dX11_done_36 rfl rfl ?_
          refine j_gS C f_X11_45 n_0 q_0_5 dX11_done_37 ?_
          refine j_cV C l_X11_194 [] [] (fun _ => none) (fun u5 => u5) (fun u5 => []) n_50 hm (fun l u hu => c_Water_freshenToday hu) rfl (Nat.le_of_ble_eq_true rfl) rfl (Nat.le_of_ble_eq_true rfl) (Nat.le_of_ble_eq_true rfl) (fun _ => rfl) dX11_done_40 (fun u5 hm => ?_)
          refine j_aload_n C 0 dX11_done_43 rfl rfl ?_
          refine j_gS C f_X11_54 n_0 q_0_6 dX11_done_44 ?_
          refine j_iload_n C 1 dX11_done_47 rfl rfl ?_
          refine j_iload_n C 2 dX11_done_48 rfl rfl ?_
          refine j_iload_n C 3 dX11_done_49 rfl rfl ?_
          refine j_iload C 4 dX11_done_50 rfl ?_
          refine j_cV C l_X11_267 [.int v1, .int v2, .int v3, .int v4] [] (fun u6 => some (.int u6.1)) (fun u6 => u6.2) (fun u6 => [.int u6.1]) n_58 hm (fun l u hu => c_Ways_movesDone hu) rfl (Nat.le_of_ble_eq_true rfl) rfl (Nat.le_of_ble_eq_true rfl) (Nat.le_of_ble_eq_true rfl) (fun _ => rfl) dX11_done_52 (fun u6 hm => ?_)
          obtain rfl := Option.some.inj hm
          exact j_iret C O dX11_done_55
theorem c_Race_done {G : jG} {l : Launch} {v1 : Int32} {v2 : Int32} {v3 : Int32} {v4 : Int32} {h : Hp} {out : (Int32 × Hp)} (hm : s_Race_done v1 v2 v3 v4 h = some out) : mt G l yX11_done cX11_done 5 (some .int) 7 236 [.ref (G.1 + 0), .int v1, .int v2, .int v3, .int v4] h (some (.int out.1)) out.2 :=
  mt_of (by decide) (Nat.le_of_ble_eq_true rfl) _ rfl (fun X I C O => w_Race_done C O hm)
noncomputable def s_Race_drawn_31 (s0 : Int32) (h : Hp) : Option Int32 :=
  some (s0)
noncomputable def s_Race_drawn_17 (h : Hp) : Option Int32 :=
  s_Race_drawn_31 ((-100000 : Int32)) h
noncomputable def s_Race_drawn (v1 : Int32) (h : Hp) : Option Int32 :=
  nq (hR h 50 8) (s_Race_drawn_17 h) fun r1 => (s_Race_isMinute v1 h).bind fun u3 => if u3 = 0 then
      s_Race_drawn_17 h
    else
      nn (hR h 50 8) fun r4 => ak h r4 0 <| ib v1 (ln h r4) <| s_Race_drawn_31 (hI h r4 (ix v1)) h
def O_Race_drawn (G : jG) (X : jX) (h : Hp) (out : Int32) : Prop := jO G X (some .int) (some (.int out)) h
theorem w_Race_drawn_31 {G : jG} {X : jX} (C : jC G X cX11_drawn 2 RX11 3 112) {s0 : Int32} {h : Hp} {out : Int32} (O : (O_Race_drawn G X h) out) (hm : s_Race_drawn_31 s0 h = some out) : J G X 31 [] [.int s0] h := by
  unfold s_Race_drawn_31 at hm
  obtain rfl := Option.some.inj hm
  exact j_iret C O dX11_drawn_31
theorem w_Race_drawn_17 {G : jG} {X : jX} (C : jC G X cX11_drawn 2 RX11 3 112) {h : Hp} {out : Int32} (O : (O_Race_drawn G X h) out) (hm : s_Race_drawn_17 h = some out) : J G X 17 [] [] h := by
  unfold s_Race_drawn_17 at hm
  refine j_ldc C wd_874 dX11_drawn_17 ?_
  refine j_goto C 31 dX11_drawn_19 (by decide) ?_
  refine j_sub (L' := []) [] rfl ?_
  exact w_Race_drawn_31 C O hm
theorem w_Race_drawn {G : jG} {X : jX} (C : jC G X cX11_drawn 2 RX11 3 112) {v1 : Int32} {h : Hp} {out : Int32} (O : (O_Race_drawn G X h) out) (hm : s_Race_drawn v1 h = some out) : J G X 0 [(0, .ref (G.1 + 0)), (1, .int v1)] [] h := by
  unfold s_Race_drawn at hm
  refine j_aload_n C 0 dX11_drawn_0 rfl rfl ?_
  refine j_gS C f_X11_45 n_0 q_0_5 dX11_drawn_1 ?_
  refine j_gR C f_X11_366 n_50 q_50_8 dX11_drawn_4 ?_
  rcases nq_inv hm with ⟨c2, hm⟩ | ⟨r1, c2, hm⟩
  · rw [c2]
    refine j_ifnullN C 17 dX11_drawn_7 (by decide) ?_
    refine j_sub (L' := []) [] rfl ?_
    exact w_Race_drawn_17 C O hm
  · rw [c2]
    refine j_ifnull C dX11_drawn_7 ?_
    refine j_iload_n C 1 dX11_drawn_10 rfl rfl ?_
    refine j_cS C l_X11_184 [.int v1] [] (fun u3 => some (.int u3)) (fun _ => h) (fun u3 => [.int u3]) hm (fun l u hu => c_Race_isMinute hu) rfl (Nat.le_of_ble_eq_true rfl) rfl (Nat.le_of_ble_eq_true rfl) (Nat.le_of_ble_eq_true rfl) (fun _ => rfl) dX11_drawn_11 (fun u3 hm => ?_)
    refine j_ifne C 22 dX11_drawn_14 (by decide) hm (fun hm => ?_) (fun hm => ?_)
    · refine j_sub (L' := []) [] rfl ?_
      exact w_Race_drawn_17 C O hm
    · refine j_aload_n C 0 dX11_drawn_22 rfl rfl ?_
      refine j_gS C f_X11_45 n_0 q_0_5 dX11_drawn_23 ?_
      refine j_gR C f_X11_366 n_50 q_50_8 dX11_drawn_26 ?_
      refine j_iload_n C 1 dX11_drawn_29 rfl rfl ?_
      obtain ⟨r4, c5, hm⟩ := nn_inv hm
      rw [c5]
      change J G X _ _ _ _
      obtain ⟨c6, hm⟩ := ak_inv hm
      refine j_iald C c6 hm dX11_drawn_30 (fun hm => ?_)
      refine j_sub (L' := []) [] rfl ?_
      exact w_Race_drawn_31 C O hm
theorem c_Race_drawn {G : jG} {l : Launch} {v1 : Int32} {h : Hp} {out : Int32} (hm : s_Race_drawn v1 h = some out) : mt G l yX11_drawn cX11_drawn 2 (some .int) 3 112 [.ref (G.1 + 0), .int v1] h (some (.int out)) h :=
  mt_of (by decide) (Nat.le_of_ble_eq_true rfl) _ rfl (fun X I C O => w_Race_drawn C O hm)
noncomputable def s_Race_end (v1 : Int32) (h : Hp) : Option (Int32 × Hp) :=
  (s_Race_isWithin v1 ((0 : Int32)) (hI h 45 1) h).bind fun u1 => if u1 = 0 then
    some ((-1 : Int32), h)
  else
    some (v1, sI h 45 1 v1)
def O_Race_end (G : jG) (X : jX) (out : (Int32 × Hp)) : Prop := jO G X (some .int) (some (.int out.1)) out.2
theorem w_Race_end {G : jG} {X : jX} (C : jC G X cX11_end 2 RX11 2 92) {v1 : Int32} {h : Hp} {out : (Int32 × Hp)} (O : (O_Race_end G X) out) (hm : s_Race_end v1 h = some out) : J G X 0 [(0, .ref (G.1 + 0)), (1, .int v1)] [] h := by
  unfold s_Race_end at hm
  refine j_iload_n C 1 dX11_end_0 rfl rfl ?_
  refine j_iconst C 0 dX11_end_1 (by decide) ?_
  refine j_aload_n C 0 dX11_end_2 rfl rfl ?_
  refine j_gS C f_X11_27 n_0 q_0_3 dX11_end_3 ?_
  refine j_gI C f_X11_154 n_45 dX11_end_6 ?_
  refine j_cS C l_X11_102 [.int v1, .int ((0 : Int32)), .int (hI h 45 1)] [] (fun u1 => some (.int u1)) (fun _ => h) (fun u1 => [.int u1]) hm (fun l u hu => c_Race_isWithin hu) rfl (Nat.le_of_ble_eq_true rfl) rfl (Nat.le_of_ble_eq_true rfl) (Nat.le_of_ble_eq_true rfl) (fun _ => rfl) dX11_end_9 (fun u1 hm => ?_)
  refine j_ifne C 17 dX11_end_12 (by decide) hm (fun hm => ?_) (fun hm => ?_)
  · refine j_iconst C (-1 : Int32) dX11_end_15 (by decide) ?_
    obtain rfl := Option.some.inj hm
    exact j_iret C O dX11_end_16
  · refine j_aload_n C 0 dX11_end_17 rfl rfl ?_
    refine j_gS C f_X11_27 n_0 q_0_3 dX11_end_18 ?_
    refine j_iload_n C 1 dX11_end_21 rfl rfl ?_
    refine j_pI C f_X11_154 n_45 dX11_end_22 ?_
    refine j_iload_n C 1 dX11_end_25 rfl rfl ?_
    obtain rfl := Option.some.inj hm
    exact j_iret C O dX11_end_26
theorem c_Race_end {G : jG} {l : Launch} {v1 : Int32} {h : Hp} {out : (Int32 × Hp)} (hm : s_Race_end v1 h = some out) : mt G l yX11_end cX11_end 2 (some .int) 2 92 [.ref (G.1 + 0), .int v1] h (some (.int out.1)) out.2 :=
  mt_of (by decide) (Nat.le_of_ble_eq_true rfl) _ rfl (fun X I C O => w_Race_end C O hm)
noncomputable def s_Race_fault (h : Hp) : Option Int32 :=
  some (hI h 0 14)
def O_Race_fault (G : jG) (X : jX) (h : Hp) (out : Int32) : Prop := jO G X (some .int) (some (.int out)) h
theorem w_Race_fault {G : jG} {X : jX} (C : jC G X cX11_fault 1 RX11 1 70) {h : Hp} {out : Int32} (O : (O_Race_fault G X h) out) (hm : s_Race_fault h = some out) : J G X 0 [(0, .ref (G.1 + 0))] [] h := by
  unfold s_Race_fault at hm
  refine j_aload_n C 0 dX11_fault_0 rfl rfl ?_
  refine j_gI C f_X11_99 n_0 dX11_fault_1 ?_
  obtain rfl := Option.some.inj hm
  exact j_iret C O dX11_fault_4
theorem c_Race_fault {G : jG} {l : Launch} {h : Hp} {out : Int32} (hm : s_Race_fault h = some out) : mt G l yX11_fault cX11_fault 1 (some .int) 1 70 [.ref (G.1 + 0)] h (some (.int out)) h :=
  mt_of (by decide) (Nat.le_of_ble_eq_true rfl) _ rfl (fun X I C O => w_Race_fault C O hm)
noncomputable def s_Tape_add_49 (h : Hp) : Option Hp :=
  some h
noncomputable def s_Tape_add_3 (v1 : Int32) (v2 : Int32) (h : Hp) : Option ((Int32 × Int32 × Hp) ⊕ Hp) :=
  if v2 < 0 then
    inr (s_Tape_add_49 h)
  else
    if ((400 : Int32)) ≤ (hI h 45 1) then
      inr (s_Tape_add_49 h)
    else
      ib (hI h 45 1) 400 <| lt (sI h 46 (ix (hI h 45 1)) ((z_ushr v1 v2) &&& ((255 : Int32)))) fun h1 => some (.inl (v1, (v2 + (-8 : Int32)), (sI h1 45 1 ((hI h1 45 1) + ((1 : Int32))))))
noncomputable def s_Tape_add (v1 : Int32) (h : Hp) : Option Hp :=
  lp (fun q => s_Tape_add_3 q.1 q.2.1 q.2.2) (v1, ((24 : Int32)), h)
def O_Tape_add (G : jG) (X : jX) (out : Hp) : Prop := jO G X (none) none out
def P_Tape_add_3 (G : jG) (X : jX) (q : Int32 × Int32 × Hp) : Prop := J G X 3 [(0, .ref (G.1 + 45)), (1, .int q.1), (2, .int q.2.1)] [] q.2.2
def O_Tape_add_3 (G : jG) (X : jX) (t : ((Int32 × Int32 × Hp) ⊕ Hp)) : Prop := Sum.elim (P_Tape_add_3 G X) (O_Tape_add G X) t
theorem w_Tape_add_49 {G : jG} {X : jX} (C : jC G X cX7_add 3 RX7 1 70) {h : Hp} {out : Hp} (O : (O_Tape_add G X) out) (hm : s_Tape_add_49 h = some out) : J G X 49 [] [] h := by
  unfold s_Tape_add_49 at hm
  obtain rfl := Option.some.inj hm
  exact j_vret C O dX7_add_49
theorem w_Tape_add_3 {G : jG} {X : jX} (C : jC G X cX7_add 3 RX7 1 70) {v1 : Int32} {v2 : Int32} {h : Hp} {out : ((Int32 × Int32 × Hp) ⊕ Hp)} (O : (O_Tape_add_3 G X) out) (hm : s_Tape_add_3 v1 v2 h = some out) : J G X 3 [(0, .ref (G.1 + 45)), (1, .int v1), (2, .int v2)] [] h := by
  unfold s_Tape_add_3 at hm
  refine j_iload_n C 2 dX7_add_3 rfl rfl ?_
  refine j_iflt C 49 dX7_add_4 (by decide) hm (fun hm => ?_) (fun hm => ?_)
  · obtain ⟨o_0, hm_0, rfl⟩ := inr_inv hm
    refine j_sub (L' := []) [] rfl ?_
    exact w_Tape_add_49 C O hm_0
  · refine j_aload_n C 0 dX7_add_7 rfl rfl ?_
    refine j_gI C f_X7_15 n_45 dX7_add_8 ?_
    refine j_sipush C 400 dX7_add_11 (by decide) ?_
    refine j_if_icmpge C 49 dX7_add_14 (by decide) hm (fun hm => ?_) (fun hm => ?_)
    · obtain ⟨o_0, hm_0, rfl⟩ := inr_inv hm
      refine j_sub (L' := []) [] rfl ?_
      exact w_Tape_add_49 C O hm_0
    · refine j_aload_n C 0 dX7_add_17 rfl rfl ?_
      refine j_gS C f_X7_9 n_45 q_45_0 dX7_add_18 ?_
      refine j_aload_n C 0 dX7_add_21 rfl rfl ?_
      refine j_gI C f_X7_15 n_45 dX7_add_22 ?_
      refine j_iload_n C 1 dX7_add_25 rfl rfl ?_
      refine j_iload_n C 2 dX7_add_26 rfl rfl ?_
      refine j_iushr C dX7_add_27 ?_
      refine j_sipush C 255 dX7_add_28 (by decide) ?_
      refine j_iand C dX7_add_31 ?_
      refine j_iast C n_46 hm dX7_add_32 (fun hm => ?_)
      refine j_aload_n C 0 dX7_add_33 rfl rfl ?_
      refine j_dup C dX7_add_34 rfl ?_
      refine j_nmH hm (fun h1 hm => ?_)
      refine j_gI C f_X7_15 n_45 dX7_add_35 ?_
      refine j_iconst C 1 dX7_add_38 (by decide) ?_
      refine j_iadd C dX7_add_39 ?_
      refine j_pI C f_X7_15 n_45 dX7_add_40 ?_
      refine j_iinc C 2 [(2, .int (v2 + (-8 : Int32))), (0, .ref (G.1 + 45)), (1, .int v1)] dX7_add_43 rfl (add_lit (by decide)) (by decide) rfl ?_
      refine j_goto C 3 dX7_add_46 (by decide) ?_
      obtain rfl := Option.some.inj hm
      refine j_sub (L' := [(0, .ref (G.1 + 45)), (1, .int v1), (2, .int (v2 + (-8 : Int32)))]) [1, 2, 0] rfl ?_
      exact O
theorem k_Tape_add_3 {G : jG} {X : jX} (C : jC G X cX7_add 3 RX7 1 70) {v1 : Int32} {v2 : Int32} {h : Hp} {out : Hp} (O : (O_Tape_add G X) out) (hm : lp (fun q => s_Tape_add_3 q.1 q.2.1 q.2.2) (v1, v2, h) = some out) : J G X 3 [(0, .ref (G.1 + 45)), (1, .int v1), (2, .int v2)] [] h :=
  lp_ok (P := P_Tape_add_3 G X) (O := (O_Tape_add G X)) (fun q r hm O => w_Tape_add_3 C O hm) hm O
theorem w_Tape_add {G : jG} {X : jX} (C : jC G X cX7_add 3 RX7 1 70) {v1 : Int32} {h : Hp} {out : Hp} (O : (O_Tape_add G X) out) (hm : s_Tape_add v1 h = some out) : J G X 0 [(0, .ref (G.1 + 45)), (1, .int v1)] [] h := by
  unfold s_Tape_add at hm
  refine j_bipush C 24 dX7_add_0 (by decide) ?_
  refine j_istore_n C [(2, .int ((24 : Int32))), (0, .ref (G.1 + 45)), (1, .int v1)] dX7_add_2 rfl (by decide) rfl ?_
  refine j_sub (L' := [(0, .ref (G.1 + 45)), (1, .int v1), (2, .int ((24 : Int32)))]) [1, 2, 0] rfl ?_
  exact k_Tape_add_3 C O hm
theorem c_Tape_add {G : jG} {l : Launch} {v1 : Int32} {h : Hp} {out : Hp} (hm : s_Tape_add v1 h = some out) : mt G l yX7_add cX7_add 3 (none) 1 70 [.ref (G.1 + 45), .int v1] h none out :=
  mt_of (by decide) (Nat.le_of_ble_eq_true rfl) _ rfl (fun X I C O => w_Tape_add C O hm)
noncomputable def s_Race_feed (v1 : Int32) (v2 : Int32) (v3 : Int32) (v4 : Int32) (v5 : Int32) (h : Hp) : Option (Int32 × Hp) :=
  if ((hI h 45 1) + ((20 : Int32))) ≤ ((400 : Int32)) then
    (s_Tape_add v1 h).bind fun u1 => (s_Tape_add v2 u1).bind fun u2 => (s_Tape_add v3 u2).bind fun u3 => (s_Tape_add v4 u3).bind fun u4 => (s_Tape_add v5 u4).bind fun u5 => some (hI u5 45 1, u5)
  else
    some ((-1 : Int32), h)
def O_Race_feed (G : jG) (X : jX) (out : (Int32 × Hp)) : Prop := jO G X (some .int) (some (.int out.1)) out.2
theorem w_Race_feed {G : jG} {X : jX} (C : jC G X cX11_feed 6 RX11 2 92) {v1 : Int32} {v2 : Int32} {v3 : Int32} {v4 : Int32} {v5 : Int32} {h : Hp} {out : (Int32 × Hp)} (O : (O_Race_feed G X) out) (hm : s_Race_feed v1 v2 v3 v4 v5 h = some out) : J G X 0 [(0, .ref (G.1 + 0)), (1, .int v1), (2, .int v2), (3, .int v3), (4, .int v4), (5, .int v5)] [] h := by
  unfold s_Race_feed at hm
  refine j_aload_n C 0 dX11_feed_0 rfl rfl ?_
  refine j_gS C f_X11_27 n_0 q_0_3 dX11_feed_1 ?_
  refine j_gI C f_X11_154 n_45 dX11_feed_4 ?_
  refine j_bipush C 20 dX11_feed_7 (by decide) ?_
  refine j_iadd C dX11_feed_9 ?_
  refine j_sipush C 400 dX11_feed_10 (by decide) ?_
  refine j_if_icmple C 18 dX11_feed_13 (by decide) hm (fun hm => ?_) (fun hm => ?_)
  · refine j_aload_n C 0 dX11_feed_18 rfl rfl ?_
    refine j_gS C f_X11_27 n_0 q_0_3 dX11_feed_19 ?_
    refine j_iload_n C 1 dX11_feed_22 rfl rfl ?_
    refine j_cV C l_X11_157 [.int v1] [] (fun _ => none) (fun u1 => u1) (fun u1 => []) n_45 hm (fun l u hu => c_Tape_add hu) rfl (Nat.le_of_ble_eq_true rfl) rfl (Nat.le_of_ble_eq_true rfl) (Nat.le_of_ble_eq_true rfl) (fun _ => rfl) dX11_feed_23 (fun u1 hm => ?_)
    refine j_aload_n C 0 dX11_feed_26 rfl rfl ?_
    refine j_gS C f_X11_27 n_0 q_0_3 dX11_feed_27 ?_
    refine j_iload_n C 2 dX11_feed_30 rfl rfl ?_
    refine j_cV C l_X11_157 [.int v2] [] (fun _ => none) (fun u2 => u2) (fun u2 => []) n_45 hm (fun l u hu => c_Tape_add hu) rfl (Nat.le_of_ble_eq_true rfl) rfl (Nat.le_of_ble_eq_true rfl) (Nat.le_of_ble_eq_true rfl) (fun _ => rfl) dX11_feed_31 (fun u2 hm => ?_)
    refine j_aload_n C 0 dX11_feed_34 rfl rfl ?_
    refine j_gS C f_X11_27 n_0 q_0_3 dX11_feed_35 ?_
    refine j_iload_n C 3 dX11_feed_38 rfl rfl ?_
    refine j_cV C l_X11_157 [.int v3] [] (fun _ => none) (fun u3 => u3) (fun u3 => []) n_45 hm (fun l u hu => c_Tape_add hu) rfl (Nat.le_of_ble_eq_true rfl) rfl (Nat.le_of_ble_eq_true rfl) (Nat.le_of_ble_eq_true rfl) (fun _ => rfl) dX11_feed_39 (fun u3 hm => ?_)
    refine j_aload_n C 0 dX11_feed_42 rfl rfl ?_
    refine j_gS C f_X11_27 n_0 q_0_3 dX11_feed_43 ?_
    refine j_iload C 4 dX11_feed_46 rfl ?_
    refine j_cV C l_X11_157 [.int v4] [] (fun _ => none) (fun u4 => u4) (fun u4 => []) n_45 hm (fun l u hu => c_Tape_add hu) rfl (Nat.le_of_ble_eq_true rfl) rfl (Nat.le_of_ble_eq_true rfl) (Nat.le_of_ble_eq_true rfl) (fun _ => rfl) dX11_feed_48 (fun u4 hm => ?_)
    refine j_aload_n C 0 dX11_feed_51 rfl rfl ?_
    refine j_gS C f_X11_27 n_0 q_0_3 dX11_feed_52 ?_
    refine j_iload C 5 dX11_feed_55 rfl ?_
    refine j_cV C l_X11_157 [.int v5] [] (fun _ => none) (fun u5 => u5) (fun u5 => []) n_45 hm (fun l u hu => c_Tape_add hu) rfl (Nat.le_of_ble_eq_true rfl) rfl (Nat.le_of_ble_eq_true rfl) (Nat.le_of_ble_eq_true rfl) (fun _ => rfl) dX11_feed_57 (fun u5 hm => ?_)
    refine j_aload_n C 0 dX11_feed_60 rfl rfl ?_
    refine j_gS C f_X11_27 n_0 q_0_3 dX11_feed_61 ?_
    refine j_gI C f_X11_154 n_45 dX11_feed_64 ?_
    obtain rfl := Option.some.inj hm
    exact j_iret C O dX11_feed_67
  · refine j_iconst C (-1 : Int32) dX11_feed_16 (by decide) ?_
    obtain rfl := Option.some.inj hm
    exact j_iret C O dX11_feed_17
theorem c_Race_feed {G : jG} {l : Launch} {v1 : Int32} {v2 : Int32} {v3 : Int32} {v4 : Int32} {v5 : Int32} {h : Hp} {out : (Int32 × Hp)} (hm : s_Race_feed v1 v2 v3 v4 v5 h = some out) : mt G l yX11_feed cX11_feed 6 (some .int) 2 92 [.ref (G.1 + 0), .int v1, .int v2, .int v3, .int v4, .int v5] h (some (.int out.1)) out.2 :=
  mt_of (by decide) (Nat.le_of_ble_eq_true rfl) _ rfl (fun X I C O => w_Race_feed C O hm)
noncomputable def s_Race_flow (v1 : Int32) (h : Hp) : Option (Int32 × Hp) :=
  (s_Race_isMinute v1 h).bind fun u1 => if u1 = 0 then
    some ((-100000 : Int32), h)
  else
    (s_Water_freshenToday h).bind fun u2 => ib v1 1440 <| some (hI u2 57 (ix v1), u2)
def O_Race_flow (G : jG) (X : jX) (out : (Int32 × Hp)) : Prop := jO G X (some .int) (some (.int out.1)) out.2
theorem w_Race_flow {G : jG} {X : jX} (C : jC G X cX11_flow 2 RX11 7 230) {v1 : Int32} {h : Hp} {out : (Int32 × Hp)} (O : (O_Race_flow G X) out) (hm : s_Race_flow v1 h = some out) : J G X 0 [(0, .ref (G.1 + 0)), (1, .int v1)] [] h := by
  unfold s_Race_flow at hm
  refine j_iload_n C 1 dX11_flow_0 rfl rfl ?_
  refine j_cS C l_X11_184 [.int v1] [] (fun u1 => some (.int u1)) (fun _ => h) (fun u1 => [.int u1]) hm (fun l u hu => c_Race_isMinute hu) rfl (Nat.le_of_ble_eq_true rfl) rfl (Nat.le_of_ble_eq_true rfl) (Nat.le_of_ble_eq_true rfl) (fun _ => rfl) dX11_flow_1 (fun u1 hm => ?_)
  refine j_ifne C 10 dX11_flow_4 (by decide) hm (fun hm => ?_) (fun hm => ?_)
  · refine j_ldc C wd_874 dX11_flow_7 ?_
    obtain rfl := Option.some.inj hm
    exact j_iret C O dX11_flow_9
  · refine j_aload_n C 0 dX11_flow_10 rfl rfl ?_
    refine j_gS C f_X11_45 n_0 q_0_5 dX11_flow_11 ?_
    refine j_cV C l_X11_194 [] [] (fun _ => none) (fun u2 => u2) (fun u2 => []) n_50 hm (fun l u hu => c_Water_freshenToday hu) rfl (Nat.le_of_ble_eq_true rfl) rfl (Nat.le_of_ble_eq_true rfl) (Nat.le_of_ble_eq_true rfl) (fun _ => rfl) dX11_flow_14 (fun u2 hm => ?_)
    refine j_aload_n C 0 dX11_flow_17 rfl rfl ?_
    refine j_gS C f_X11_45 n_0 q_0_5 dX11_flow_18 ?_
    refine j_gS C f_X11_197 n_50 q_50_5 dX11_flow_21 ?_
    refine j_iload_n C 1 dX11_flow_24 rfl rfl ?_
    refine j_iald C n_57 hm dX11_flow_25 (fun hm => ?_)
    obtain rfl := Option.some.inj hm
    exact j_iret C O dX11_flow_26
theorem c_Race_flow {G : jG} {l : Launch} {v1 : Int32} {h : Hp} {out : (Int32 × Hp)} (hm : s_Race_flow v1 h = some out) : mt G l yX11_flow cX11_flow 2 (some .int) 7 230 [.ref (G.1 + 0), .int v1] h (some (.int out.1)) out.2 :=
  mt_of (by decide) (Nat.le_of_ble_eq_true rfl) _ rfl (fun X I C O => w_Race_flow C O hm)
noncomputable def s_Race_force (v1 : Int32) (h : Hp) : Option (Int32 × Hp) :=
  (s_Race_isWithin v1 ((-1 : Int32)) ((hI h 1 13) - ((1 : Int32))) h).bind fun u1 => if u1 = 0 then
    (s_Race_refuse ((-2 : Int32)) h).bind fun u4 => some (u4.1, u4.2)
  else
    (s_Race_forgetFlows (sI h 1 14 v1)).bind fun u2 => (s_Race_grant (hI h 1 14) u2).bind fun u3 => some (u3.1, u3.2)
def O_Race_force (G : jG) (X : jX) (out : (Int32 × Hp)) : Prop := jO G X (some .int) (some (.int out.1)) out.2
theorem w_Race_force {G : jG} {X : jX} (C : jC G X cX11_force 3 RX11 4 134) {v1 : Int32} {h : Hp} {out : (Int32 × Hp)} (O : (O_Race_force G X) out) (hm : s_Race_force v1 h = some out) : J G X 0 [(0, .ref (G.1 + 0)), (1, .int v1)] [] h := by
  unfold s_Race_force at hm
  refine j_iload_n C 1 dX11_force_0 rfl rfl ?_
  refine j_iconst C (-1 : Int32) dX11_force_1 (by decide) ?_
  refine j_aload_n C 0 dX11_force_2 rfl rfl ?_
  refine j_gS C f_X11_10 n_0 q_0_0 dX11_force_3 ?_
  refine j_gI C f_X11_167 n_1 dX11_force_6 ?_
  refine j_iconst C 1 dX11_force_9 (by decide) ?_
  refine j_isub C dX11_force_10 ?_
  refine j_cS C l_X11_102 [.int v1, .int ((-1 : Int32)), .int ((hI h 1 13) - ((1 : Int32)))] [] (fun u1 => some (.int u1)) (fun _ => h) (fun u1 => [.int u1]) hm (fun l u hu => c_Race_isWithin hu) rfl (Nat.le_of_ble_eq_true rfl) rfl (Nat.le_of_ble_eq_true rfl) (Nat.le_of_ble_eq_true rfl) (fun _ => rfl) dX11_force_11 (fun u1 hm => ?_)
  refine j_ifne C 24 dX11_force_14 (by decide) hm (fun hm => ?_) (fun hm => ?_)
  · refine j_aload_n C 0 dX11_force_17 rfl rfl ?_
    refine j_bipush C (-2 : Int32) dX11_force_18 (by decide) ?_
    refine j_cV C l_X11_112 [.int ((-2 : Int32))] [] (fun u4 => some (.int u4.1)) (fun u4 => u4.2) (fun u4 => [.int u4.1]) n_0 hm (fun l u hu => c_Race_refuse hu) rfl (Nat.le_of_ble_eq_true rfl) rfl (Nat.le_of_ble_eq_true rfl) (Nat.le_of_ble_eq_true rfl) (fun _ => rfl) dX11_force_20 (fun u4 hm => ?_)
    obtain rfl := Option.some.inj hm
    exact j_iret C O dX11_force_23
  · refine j_aload_n C 0 dX11_force_24 rfl rfl ?_
    refine j_gS C f_X11_10 n_0 q_0_0 dX11_force_25 ?_
    refine j_gI C f_X11_181 n_1 dX11_force_28 ?_
    refine j_istore_n C [(2, .int (hI h 1 14)), (0, .ref (G.1 + 0)), (1, .int v1)] dX11_force_31 rfl (by decide) rfl ?_
    refine j_aload_n C 1 dX11_force_32 rfl rfl ?_
    refine j_gS C f_X11_10 n_0 q_0_0 dX11_force_33 ?_
    refine j_iload_n C 2 dX11_force_36 rfl rfl ?_
    refine j_pI C f_X11_181 n_1 dX11_force_37 ?_
    refine j_aload_n C 1 dX11_force_40 rfl rfl ?_
    refine j_cV C l_X11_151 [] [] (fun _ => none) (fun u2 => u2) (fun u2 => []) n_0 hm (fun l u hu => c_Race_forgetFlows hu) rfl (Nat.le_of_ble_eq_true rfl) rfl (Nat.le_of_ble_eq_true rfl) (Nat.le_of_ble_eq_true rfl) (fun _ => rfl) dX11_force_41 (fun u2 hm => ?_)
    refine j_aload_n C 1 dX11_force_44 rfl rfl ?_
    refine j_iload_n C 0 dX11_force_45 rfl rfl ?_
    refine j_cV C l_X11_122 [.int (hI h 1 14)] [] (fun u3 => some (.int u3.1)) (fun u3 => u3.2) (fun u3 => [.int u3.1]) n_0 hm (fun l u hu => c_Race_grant hu) rfl (Nat.le_of_ble_eq_true rfl) rfl (Nat.le_of_ble_eq_true rfl) (Nat.le_of_ble_eq_true rfl) (fun _ => rfl) dX11_force_46 (fun u3 hm => ?_)
    obtain rfl := Option.some.inj hm
    exact j_iret C O dX11_force_49
theorem c_Race_force {G : jG} {l : Launch} {v1 : Int32} {h : Hp} {out : (Int32 × Hp)} (hm : s_Race_force v1 h = some out) : mt G l yX11_force cX11_force 3 (some .int) 4 134 [.ref (G.1 + 0), .int v1] h (some (.int out.1)) out.2 :=
  mt_of (by decide) (Nat.le_of_ble_eq_true rfl) _ rfl (fun X I C O => w_Race_force C O hm)
noncomputable def s_Race_foul (h : Hp) : Option Int32 :=
  some (hI h 0 13)
def O_Race_foul (G : jG) (X : jX) (h : Hp) (out : Int32) : Prop := jO G X (some .int) (some (.int out)) h
theorem w_Race_foul {G : jG} {X : jX} (C : jC G X cX11_foul 1 RX11 1 70) {h : Hp} {out : Int32} (O : (O_Race_foul G X h) out) (hm : s_Race_foul h = some out) : J G X 0 [(0, .ref (G.1 + 0))] [] h := by
  unfold s_Race_foul at hm
  refine j_aload_n C 0 dX11_foul_0 rfl rfl ?_
  refine j_gI C f_X11_96 n_0 dX11_foul_1 ?_
  obtain rfl := Option.some.inj hm
  exact j_iret C O dX11_foul_4
theorem c_Race_foul {G : jG} {l : Launch} {h : Hp} {out : Int32} (hm : s_Race_foul h = some out) : mt G l yX11_foul cX11_foul 1 (some .int) 1 70 [.ref (G.1 + 0)] h (some (.int out)) h :=
  mt_of (by decide) (Nat.le_of_ble_eq_true rfl) _ rfl (fun X I C O => w_Race_foul C O hm)
