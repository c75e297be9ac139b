noncomputable def s_Mod_whites_10 (v1 : Int32) (v2 : Int32) (h : Hp) : Option ((Int32 × Int32 × Hp) ⊕ ((Int32 × Hp) ⊕ Hp)) :=
  if ((1440 : Int32)) ≤ v2 then
    some (.inr (.inl ((v1 + (1 : Int32)), h)))
  else
    (s_Mod_whiteAt v1 v2 h).bind fun u1 => ib ((((1440 : Int32)) * v1) + v2) 8640 <| some (.inl (v1, (v2 + (1 : Int32)), (sI u1.2 99 (ix ((((1440 : Int32)) * v1) + v2)) (z_nb (z_i2b u1.1)))))
noncomputable def s_Mod_whites_2 (v1 : Int32) (h : Hp) : Option ((Int32 × Hp) ⊕ Hp) :=
  if ((6 : Int32)) ≤ v1 then
    some (.inr h)
  else
    lp (fun q => s_Mod_whites_10 q.1 q.2.1 q.2.2) (v1, ((0 : Int32)), h)
noncomputable def s_Mod_whites (h : Hp) : Option Hp :=
  lp (fun q => s_Mod_whites_2 q.1 q.2) (((0 : Int32)), h)
def O_Mod_whites (G : jG) (X : jX) (out : Hp) : Prop := jO G X (none) none out
def P_Mod_whites_2 (G : jG) (X : jX) (q : Int32 × Hp) : Prop := J G X 2 [(0, .ref (G.1 + 84)), (1, .int q.1)] [] q.2
def O_Mod_whites_2 (G : jG) (X : jX) (t : ((Int32 × Hp) ⊕ Hp)) : Prop := Sum.elim (P_Mod_whites_2 G X) (O_Mod_whites G X) t
def P_Mod_whites_10 (G : jG) (X : jX) (q : Int32 × Int32 × Hp) : Prop := J G X 10 [(0, .ref (G.1 + 84)), (1, .int q.1), (2, .int q.2.1)] [] q.2.2
def O_Mod_whites_10 (G : jG) (X : jX) (t : ((Int32 × Int32 × Hp) ⊕ ((Int32 × Hp) ⊕ Hp))) : Prop := Sum.elim (P_Mod_whites_10 G X) (O_Mod_whites_2 G X) t
theorem w_Mod_whites_10 {G : jG} {X : jX} (C : jC G X cX12_whites 3 RX12 177 4632) {v1 : Int32} {v2 : Int32} {h : Hp} {out : ((Int32 × Int32 × Hp) ⊕ ((Int32 × Hp) ⊕ Hp))} (O : (O_Mod_whites_10 G X) out) (hm : s_Mod_whites_10 v1 v2 h = some out) : J G X 10 [(0, .ref (G.1 + 84)), (1, .int v1), (2, .int v2)] [] h := by
  unfold s_Mod_whites_10 at hm
  refine j_iload_n C 2 dX12_whites_10 rfl rfl ?_
  refine j_sipush C 1440 dX12_whites_11 (by decide) ?_
  refine j_if_icmpge C 42 dX12_whites_14 (by decide) hm (fun hm => ?_) (fun hm => ?_)
  · refine j_iinc C 1 [(1, .int (v1 + (1 : Int32))), (0, .ref (G.1 + 84)), (2, .int v2)] dX12_whites_42 rfl (add_lit (by decide)) (by decide) rfl ?_
    refine j_goto C 2 dX12_whites_45 (by decide) ?_
    obtain rfl := Option.some.inj hm
    refine j_sub (L' := [(0, .ref (G.1 + 84)), (1, .int (v1 + (1 : Int32)))]) [1, 0] rfl ?_
    exact O
  · refine j_aload_n C 0 dX12_whites_17 rfl rfl ?_
    refine j_gS C f_X12_67 n_84 q_84_29 dX12_whites_18 ?_
    refine j_sipush C 1440 dX12_whites_21 (by decide) ?_
    refine j_iload_n C 1 dX12_whites_24 rfl rfl ?_
    refine j_imul C dX12_whites_25 ?_
    refine j_iload_n C 2 dX12_whites_26 rfl rfl ?_
    refine j_iadd C dX12_whites_27 ?_
    refine j_aload_n C 0 dX12_whites_28 rfl rfl ?_
    refine j_iload_n C 1 dX12_whites_29 rfl rfl ?_
    refine j_iload_n C 2 dX12_whites_30 rfl rfl ?_
    refine j_cV C l_X12_337 [.int v1, .int v2] [.int ((((1440 : Int32)) * v1) + v2), .ref (G.1 + 99)] (fun u1 => some (.int u1.1)) (fun u1 => u1.2) (fun u1 => [.int u1.1, .int ((((1440 : Int32)) * v1) + v2), .ref (G.1 + 99)]) n_84 hm (fun l u hu => c_Mod_whiteAt hu) rfl (Nat.le_of_ble_eq_true rfl) rfl (Nat.le_of_ble_eq_true rfl) (Nat.le_of_ble_eq_true rfl) (fun _ => rfl) dX12_whites_31 (fun u1 hm => ?_)
    refine j_i2b C dX12_whites_34 ?_
    refine j_bast C n_99 hm dX12_whites_35 (fun hm => ?_)
    refine j_iinc C 2 [(2, .int (v2 + (1 : Int32))), (0, .ref (G.1 + 84)), (1, .int v1)] dX12_whites_36 rfl (add_lit (by decide)) (by decide) rfl ?_
    refine j_goto C 10 dX12_whites_39 (by decide) ?_
    obtain rfl := Option.some.inj hm
    refine j_sub (L' := [(0, .ref (G.1 + 84)), (1, .int v1), (2, .int (v2 + (1 : Int32)))]) [1, 2, 0] rfl ?_
    exact O
theorem k_Mod_whites_10 {G : jG} {X : jX} (C : jC G X cX12_whites 3 RX12 177 4632) {v1 : Int32} {v2 : Int32} {h : Hp} {out : ((Int32 × Hp) ⊕ Hp)} (O : (O_Mod_whites_2 G X) out) (hm : lp (fun q => s_Mod_whites_10 q.1 q.2.1 q.2.2) (v1, v2, h) = some out) : J G X 10 [(0, .ref (G.1 + 84)), (1, .int v1), (2, .int v2)] [] h :=
  lp_ok (P := P_Mod_whites_10 G X) (O := (O_Mod_whites_2 G X)) (fun q r hm O => w_Mod_whites_10 C O hm) hm O
theorem w_Mod_whites_2 {G : jG} {X : jX} (C : jC G X cX12_whites 3 RX12 177 4632) {v1 : Int32} {h : Hp} {out : ((Int32 × Hp) ⊕ Hp)} (O : (O_Mod_whites_2 G X) out) (hm : s_Mod_whites_2 v1 h = some out) : J G X 2 [(0, .ref (G.1 + 84)), (1, .int v1)] [] h := by
  unfold s_Mod_whites_2 at hm
  refine j_iload_n C 1 dX12_whites_2 rfl rfl ?_
  refine j_bipush C 6 dX12_whites_3 (by decide) ?_
  refine j_if_icmpge C 48 dX12_whites_5 (by decide) hm (fun hm => ?_) (fun hm => ?_)
  · obtain rfl := Option.some.inj hm
    exact j_vret C O dX12_whites_48
  · refine j_iconst C 0 dX12_whites_8 (by decide) ?_
    refine j_istore_n C [(2, .int ((0 : Int32))), (0, .ref (G.1 + 84)), (1, .int v1)] dX12_whites_9 rfl (by decide) rfl ?_
    refine j_sub (L' := [(0, .ref (G.1 + 84)), (1, .int v1), (2, .int ((0 : Int32)))]) [1, 2, 0] rfl ?_
    exact k_Mod_whites_10 C O hm
theorem k_Mod_whites_2 {G : jG} {X : jX} (C : jC G X cX12_whites 3 RX12 177 4632) {v1 : Int32} {h : Hp} {out : Hp} (O : (O_Mod_whites G X) out) (hm : lp (fun q => s_Mod_whites_2 q.1 q.2) (v1, h) = some out) : J G X 2 [(0, .ref (G.1 + 84)), (1, .int v1)] [] h :=
  lp_ok (P := P_Mod_whites_2 G X) (O := (O_Mod_whites G X)) (fun q r hm O => w_Mod_whites_2 C O hm) hm O
theorem w_Mod_whites {G : jG} {X : jX} (C : jC G X cX12_whites 3 RX12 177 4632) {h : Hp} {out : Hp} (O : (O_Mod_whites G X) out) (hm : s_Mod_whites h = some out) : J G X 0 [(0, .ref (G.1 + 84))] [] h := by
  unfold s_Mod_whites at hm
  refine j_iconst C 0 dX12_whites_0 (by decide) ?_
  refine j_istore_n C [(1, .int ((0 : Int32))), (0, .ref (G.1 + 84))] dX12_whites_1 rfl (by decide) rfl ?_
  refine j_sub (L' := [(0, .ref (G.1 + 84)), (1, .int ((0 : Int32)))]) [1, 0] rfl ?_
  exact k_Mod_whites_2 C O hm
theorem c_Mod_whites {G : jG} {l : Launch} {h : Hp} {out : Hp} (hm : s_Mod_whites h = some out) : mt G l yX12_whites cX12_whites 3 (none) 177 4632 [.ref (G.1 + 84)] h none out :=
  mt_of (by decide) (Nat.le_of_ble_eq_true rfl) _ rfl (fun X I C O => w_Mod_whites C O hm)
noncomputable def s_Mod_winds_2 (v1 : Int32) (v2 : Int32) (h : Hp) : Option ((Int32 × Int32 × Hp) ⊕ Hp) :=
  if ((24 : Int32)) ≤ v2 then
    some (.inr h)
  else
    ib v2 24 <| some (.inl (v1, (v2 + (1 : Int32)), (sI h 96 (ix v2) v1)))
noncomputable def s_Mod_winds (v1 : Int32) (h : Hp) : Option Hp :=
  lp (fun q => s_Mod_winds_2 q.1 q.2.1 q.2.2) (v1, ((0 : Int32)), h)
def O_Mod_winds (G : jG) (X : jX) (out : Hp) : Prop := jO G X (none) none out
def P_Mod_winds_2 (G : jG) (X : jX) (q : Int32 × Int32 × Hp) : Prop := J G X 2 [(0, .ref (G.1 + 84)), (1, .int q.1), (2, .int q.2.1)] [] q.2.2
def O_Mod_winds_2 (G : jG) (X : jX) (t : ((Int32 × Int32 × Hp) ⊕ Hp)) : Prop := Sum.elim (P_Mod_winds_2 G X) (O_Mod_winds G X) t
theorem w_Mod_winds_2 {G : jG} {X : jX} (C : jC G X cX12_winds 3 RX12 1 70) {v1 : Int32} {v2 : Int32} {h : Hp} {out : ((Int32 × Int32 × Hp) ⊕ Hp)} (O : (O_Mod_winds_2 G X) out) (hm : s_Mod_winds_2 v1 v2 h = some out) : J G X 2 [(0, .ref (G.1 + 84)), (1, .int v1), (2, .int v2)] [] h := by
  unfold s_Mod_winds_2 at hm
  refine j_iload_n C 2 dX12_winds_2 rfl rfl ?_
  refine j_bipush C 24 dX12_winds_3 (by decide) ?_
  refine j_if_icmpge C 21 dX12_winds_5 (by decide) hm (fun hm => ?_) (fun hm => ?_)
  · obtain rfl := Option.some.inj hm
    exact j_vret C O dX12_winds_21
  · refine j_aload_n C 0 dX12_winds_8 rfl rfl ?_
    refine j_gS C f_X12_55 n_84 q_84_25 dX12_winds_9 ?_
    refine j_iload_n C 2 dX12_winds_12 rfl rfl ?_
    refine j_iload_n C 1 dX12_winds_13 rfl rfl ?_
    refine j_iast C n_96 hm dX12_winds_14 (fun hm => ?_)
    refine j_iinc C 2 [(2, .int (v2 + (1 : Int32))), (0, .ref (G.1 + 84)), (1, .int v1)] dX12_winds_15 rfl (add_lit (by decide)) (by decide) rfl ?_
    refine j_goto C 2 dX12_winds_18 (by decide) ?_
    obtain rfl := Option.some.inj hm
    refine j_sub (L' := [(0, .ref (G.1 + 84)), (1, .int v1), (2, .int (v2 + (1 : Int32)))]) [1, 2, 0] rfl ?_
    exact O
theorem k_Mod_winds_2 {G : jG} {X : jX} (C : jC G X cX12_winds 3 RX12 1 70) {v1 : Int32} {v2 : Int32} {h : Hp} {out : Hp} (O : (O_Mod_winds G X) out) (hm : lp (fun q => s_Mod_winds_2 q.1 q.2.1 q.2.2) (v1, v2, h) = some out) : J G X 2 [(0, .ref (G.1 + 84)), (1, .int v1), (2, .int v2)] [] h :=
  lp_ok (P := P_Mod_winds_2 G X) (O := (O_Mod_winds G X)) (fun q r hm O => w_Mod_winds_2 C O hm) hm O
theorem w_Mod_winds {G : jG} {X : jX} (C : jC G X cX12_winds 3 RX12 1 70) {v1 : Int32} {h : Hp} {out : Hp} (O : (O_Mod_winds G X) out) (hm : s_Mod_winds v1 h = some out) : J G X 0 [(0, .ref (G.1 + 84)), (1, .int v1)] [] h := by
  unfold s_Mod_winds at hm
  refine j_iconst C 0 dX12_winds_0 (by decide) ?_
  refine j_istore_n C [(2, .int ((0 : Int32))), (0, .ref (G.1 + 84)), (1, .int v1)] dX12_winds_1 rfl (by decide) rfl ?_
  refine j_sub (L' := [(0, .ref (G.1 + 84)), (1, .int v1), (2, .int ((0 : Int32)))]) [1, 2, 0] rfl ?_
  exact k_Mod_winds_2 C O hm
theorem c_Mod_winds {G : jG} {l : Launch} {v1 : Int32} {h : Hp} {out : Hp} (hm : s_Mod_winds v1 h = some out) : mt G l yX12_winds cX12_winds 3 (none) 1 70 [.ref (G.1 + 84), .int v1] h none out :=
  mt_of (by decide) (Nat.le_of_ble_eq_true rfl) _ rfl (fun X I C O => w_Mod_winds C O hm)
noncomputable def s_Mod_looks (h : Hp) : Option Hp :=
  if (hI h 84 28) = (hI h 84 1) then
    some h
  else
    (s_Mod_term ((9 : Int32)) (sI h 84 28 (hI h 84 1))).bind fun u1 => (s_Mod_winds u1 (sI h 84 28 (hI h 84 1))).bind fun u2 => (s_Mod_term ((10 : Int32)) u2).bind fun u3 => (s_Mod_flows 97 u3 ((0 : Int32)) u2).bind fun u4 => (s_Mod_whites u4).bind fun u5 => some u5
def O_Mod_looks (G : jG) (X : jX) (out : Hp) : Prop := jO G X (none) none out
theorem w_Mod_looks {G : jG} {X : jX} (C : jC G X cX12_looks 1 RX12 178 4659) {h : Hp} {out : Hp} (O : (O_Mod_looks G X) out) (hm : s_Mod_looks h = some out) : J G X 0 [(0, .ref (G.1 + 84))] [] h := by
  unfold s_Mod_looks at hm
  refine j_aload_n C 0 dX12_looks_0 rfl rfl ?_
  refine j_gI C f_X12_64 n_84 dX12_looks_1 ?_
  refine j_aload_n C 0 dX12_looks_4 rfl rfl ?_
  refine j_gI C f_X12_11 n_84 dX12_looks_5 ?_
  refine j_if_icmpne C 12 dX12_looks_8 (by decide) hm (fun hm => ?_) (fun hm => ?_)
  · obtain rfl := Option.some.inj hm
    exact j_vret C O dX12_looks_11
  · refine j_aload_n C 0 dX12_looks_12 rfl rfl ?_
    refine j_aload_n C 0 dX12_looks_13 rfl rfl ?_
    refine j_gI C f_X12_11 n_84 dX12_looks_14 ?_
    refine j_pI C f_X12_64 n_84 dX12_looks_17 ?_
    refine j_aload_n C 0 dX12_looks_20 rfl rfl ?_
    refine j_aload_n C 0 dX12_looks_21 rfl rfl ?_
    refine j_bipush C 9 dX12_looks_22 (by decide) ?_
    refine j_cV C l_X12_283 [.int ((9 : Int32))] [.ref (G.1 + 84)] (fun u1 => some (.int u1)) (fun _ => sI h 84 28 (hI h 84 1)) (fun u1 => [.int u1, .ref (G.1 + 84)]) n_84 hm (fun l u hu => c_Mod_term hu) rfl (Nat.le_of_ble_eq_true rfl) rfl (Nat.le_of_ble_eq_true rfl) (Nat.le_of_ble_eq_true rfl) (fun _ => rfl) dX12_looks_24 (fun u1 hm => ?_)
    refine j_cV C l_X12_312 [.int u1] [] (fun _ => none) (fun u2 => u2) (fun u2 => []) n_84 hm (fun l u hu => c_Mod_winds hu) rfl (Nat.le_of_ble_eq_true rfl) rfl (Nat.le_of_ble_eq_true rfl) (Nat.le_of_ble_eq_true rfl) (fun _ => rfl) dX12_looks_27 (fun u2 hm => ?_)
    refine j_aload_n C 0 dX12_looks_30 rfl rfl ?_
    refine j_aload_n C 0 dX12_looks_31 rfl rfl ?_
    refine j_gS C f_X12_58 n_84 q_84_26 dX12_looks_32 ?_
    refine j_aload_n C 0 dX12_looks_35 rfl rfl ?_
    refine j_bipush C 10 dX12_looks_36 (by decide) ?_
    refine j_cV C l_X12_283 [.int ((10 : Int32))] [.ref (G.1 + 97), .ref (G.1 + 84)] (fun u3 => some (.int u3)) (fun _ => u2) (fun u3 => [.int u3, .ref (G.1 + 97), .ref (G.1 + 84)]) n_84 hm (fun l u hu => c_Mod_term hu) rfl (Nat.le_of_ble_eq_true rfl) rfl (Nat.le_of_ble_eq_true rfl) (Nat.le_of_ble_eq_true rfl) (fun _ => rfl) dX12_looks_38 (fun u3 hm => ?_)
    refine j_iconst C 0 dX12_looks_41 (by decide) ?_
    refine j_cV C l_X12_314 [.ref (G.1 + 97), .int u3, .int ((0 : Int32))] [] (fun _ => none) (fun u4 => u4) (fun u4 => []) n_84 hm (fun l u hu => c_Mod_flows hu) rfl (Nat.le_of_ble_eq_true rfl) rfl (Nat.le_of_ble_eq_true rfl) (Nat.le_of_ble_eq_true rfl) (fun _ => rfl) dX12_looks_42 (fun u4 hm => ?_)
    refine j_aload_n C 0 dX12_looks_45 rfl rfl ?_
    refine j_cV C l_X12_318 [] [] (fun _ => none) (fun u5 => u5) (fun u5 => []) n_84 hm (fun l u hu => c_Mod_whites hu) rfl (Nat.le_of_ble_eq_true rfl) rfl (Nat.le_of_ble_eq_true rfl) (Nat.le_of_ble_eq_true rfl) (fun _ => rfl) dX12_looks_46 (fun u5 hm => ?_)
    obtain rfl := Option.some.inj hm
    exact j_vret C O dX12_looks_49
theorem c_Mod_looks {G : jG} {l : Launch} {h : Hp} {out : Hp} (hm : s_Mod_looks h = some out) : mt G l yX12_looks cX12_looks 1 (none) 178 4659 [.ref (G.1 + 84)] h none out :=
  mt_of (by decide) (Nat.le_of_ble_eq_true rfl) _ rfl (fun X I C O => w_Mod_looks C O hm)
noncomputable def s_Mod_beginsAt_46 (v1 : Int32) (v4 : Int32) (s0 : Int32) (h : Hp) : Option ((Int32 × Int32 × Int32) ⊕ Int32) :=
  ib ((((103 : Int32)) + (((3 : Int32)) * v1)) + ((1 : Int32))) 4998 <| if s0 = (hI h 86 (ix ((((103 : Int32)) + (((3 : Int32)) * v1)) + ((1 : Int32))))) then
    some (.inr ((v4 + ((1 : Int32))) - s0))
  else
    some (.inl (v1, s0, (v4 + (1 : Int32))))
noncomputable def s_Mod_beginsAt_5 (v1 : Int32) (v3 : Int32) (v4 : Int32) (h : Hp) : Option ((Int32 × Int32 × Int32) ⊕ Int32) :=
  if ((1440 : Int32)) ≤ v4 then
    some (.inr ((-1 : Int32)))
  else
    ib v4 1440 <| (s_Mod_size (hI h 97 (ix v4)) h).bind fun u1 => ib ((((103 : Int32)) + (((3 : Int32)) * v1)) + ((2 : Int32))) 4998 <| if (hI h 86 (ix ((((103 : Int32)) + (((3 : Int32)) * v1)) + ((2 : Int32))))) < u1 then
      s_Mod_beginsAt_46 v1 v4 ((0 : Int32)) h
    else
      s_Mod_beginsAt_46 v1 v4 (v3 + ((1 : Int32))) h
noncomputable def s_Mod_beginsAt (v1 : Int32) (v2 : Int32) (h : Hp) : Option Int32 :=
  lp (fun q => s_Mod_beginsAt_5 q.1 q.2.1 q.2.2 h) (v1, ((0 : Int32)), v2)
def O_Mod_beginsAt (G : jG) (X : jX) (h : Hp) (out : Int32) : Prop := jO G X (some .int) (some (.int out)) h
def P_Mod_beginsAt_5 (G : jG) (X : jX) (h : Hp) (q : Int32 × Int32 × Int32) : Prop := J G X 5 [(0, .ref (G.1 + 84)), (1, .int q.1), (3, .int q.2.1), (4, .int q.2.2)] [] h
def O_Mod_beginsAt_5 (G : jG) (X : jX) (h : Hp) (t : ((Int32 × Int32 × Int32) ⊕ Int32)) : Prop := Sum.elim (P_Mod_beginsAt_5 G X h) (O_Mod_beginsAt G X h) t
theorem w_Mod_beginsAt_46 {G : jG} {X : jX} (C : jC G X cX12_beginsAt 5 RX12 2 90) {v1 : Int32} {v4 : Int32} {s0 : Int32} {h : Hp} {out : ((Int32 × Int32 × Int32) ⊕ Int32)} (O : (O_Mod_beginsAt_5 G X h) out) (hm : s_Mod_beginsAt_46 v1 v4 s0 h = some out) : J G X 46 [(0, .ref (G.1 + 84)), (1, .int v1), (4, .int v4)] [.int s0] h := by
  unfold s_Mod_beginsAt_46 at hm
  refine j_istore_n C [(3, .int s0), (0, .ref (G.1 + 84)), (1, .int v1), (4, .int v4)] dX12_beginsAt_46 rfl (by decide) rfl ?_
  refine j_iload_n C 0 dX12_beginsAt_47 rfl rfl ?_
  refine j_aload_n C 1 dX12_beginsAt_48 rfl rfl ?_
  refine j_gS C f_X12_20 n_84 q_84_3 dX12_beginsAt_49 ?_
  refine j_bipush C 103 dX12_beginsAt_52 (by decide) ?_
  refine j_iconst C 3 dX12_beginsAt_54 (by decide) ?_
  refine j_iload_n C 2 dX12_beginsAt_55 rfl rfl ?_
  refine j_imul C dX12_beginsAt_56 ?_
  refine j_iadd C dX12_beginsAt_57 ?_
  refine j_iconst C 1 dX12_beginsAt_58 (by decide) ?_
  refine j_iadd C dX12_beginsAt_59 ?_
  refine j_iald C n_86 hm dX12_beginsAt_60 (fun hm => ?_)
  refine j_if_icmpne C 71 dX12_beginsAt_61 (by decide) hm (fun hm => ?_) (fun hm => ?_)
  · refine j_iload C 3 dX12_beginsAt_64 rfl ?_
    refine j_iconst C 1 dX12_beginsAt_66 (by decide) ?_
    refine j_iadd C dX12_beginsAt_67 ?_
    refine j_iload_n C 0 dX12_beginsAt_68 rfl rfl ?_
    refine j_isub C dX12_beginsAt_69 ?_
    obtain rfl := Option.some.inj hm
    exact j_iret C O dX12_beginsAt_70
  · refine j_iinc C 3 [(4, .int (v4 + (1 : Int32))), (3, .int s0), (0, .ref (G.1 + 84)), (1, .int v1)] dX12_beginsAt_71 rfl (add_lit (by decide)) (by decide) rfl ?_
    refine j_goto C 5 dX12_beginsAt_74 (by decide) ?_
    obtain rfl := Option.some.inj hm
    refine j_sub (L' := [(0, .ref (G.1 + 84)), (1, .int v1), (3, .int s0), (4, .int (v4 + (1 : Int32)))]) [2, 3, 1, 0] rfl ?_
    exact O
theorem w_Mod_beginsAt_5 {G : jG} {X : jX} (C : jC G X cX12_beginsAt 5 RX12 2 90) {v1 : Int32} {v3 : Int32} {v4 : Int32} {h : Hp} {out : ((Int32 × Int32 × Int32) ⊕ Int32)} (O : (O_Mod_beginsAt_5 G X h) out) (hm : s_Mod_beginsAt_5 v1 v3 v4 h = some out) : J G X 5 [(0, .ref (G.1 + 84)), (1, .int v1), (3, .int v3), (4, .int v4)] [] h := by
  unfold s_Mod_beginsAt_5 at hm
  refine j_iload C 3 dX12_beginsAt_5 rfl ?_
  refine j_sipush C 1440 dX12_beginsAt_7 (by decide) ?_
  refine j_if_icmpge C 77 dX12_beginsAt_10 (by decide) hm (fun hm => ?_) (fun hm => ?_)
  · refine j_iconst C (-1 : Int32) dX12_beginsAt_77 (by decide) ?_
    obtain rfl := Option.some.inj hm
    exact j_iret C O dX12_beginsAt_78
  · refine j_aload_n C 0 dX12_beginsAt_13 rfl rfl ?_
    refine j_gS C f_X12_58 n_84 q_84_26 dX12_beginsAt_14 ?_
    refine j_iload C 3 dX12_beginsAt_17 rfl ?_
    refine j_iald C n_97 hm dX12_beginsAt_19 (fun hm => ?_)
    refine j_cS C l_X12_304 [.int (hI h 97 (ix v4))] [] (fun u1 => some (.int u1)) (fun _ => h) (fun u1 => [.int u1]) hm (fun l u hu => c_Mod_size hu) rfl (Nat.le_of_ble_eq_true rfl) rfl (Nat.le_of_ble_eq_true rfl) (Nat.le_of_ble_eq_true rfl) (fun _ => rfl) dX12_beginsAt_20 (fun u1 hm => ?_)
    refine j_aload_n C 0 dX12_beginsAt_23 rfl rfl ?_
    refine j_gS C f_X12_20 n_84 q_84_3 dX12_beginsAt_24 ?_
    refine j_bipush C 103 dX12_beginsAt_27 (by decide) ?_
    refine j_iconst C 3 dX12_beginsAt_29 (by decide) ?_
    refine j_iload_n C 1 dX12_beginsAt_30 rfl rfl ?_
    refine j_imul C dX12_beginsAt_31 ?_
    refine j_iadd C dX12_beginsAt_32 ?_
    refine j_iconst C 2 dX12_beginsAt_33 (by decide) ?_
    refine j_iadd C dX12_beginsAt_34 ?_
    refine j_iald C n_86 hm dX12_beginsAt_35 (fun hm => ?_)
    refine j_if_icmpgt C 45 dX12_beginsAt_36 (by decide) hm (fun hm => ?_) (fun hm => ?_)
    · refine j_iconst C 0 dX12_beginsAt_45 (by decide) ?_
      refine j_sub (L' := [(0, .ref (G.1 + 84)), (1, .int v1), (4, .int v4)]) [0, 1, 3] rfl ?_
      exact w_Mod_beginsAt_46 C O hm
    · refine j_iload_n C 2 dX12_beginsAt_39 rfl rfl ?_
      refine j_iconst C 1 dX12_beginsAt_40 (by decide) ?_
      refine j_iadd C dX12_beginsAt_41 ?_
      refine j_goto C 46 dX12_beginsAt_42 (by decide) ?_
      refine j_sub (L' := [(0, .ref (G.1 + 84)), (1, .int v1), (4, .int v4)]) [0, 1, 3] rfl ?_
      exact w_Mod_beginsAt_46 C O hm
theorem k_Mod_beginsAt_5 {G : jG} {X : jX} (C : jC G X cX12_beginsAt 5 RX12 2 90) {v1 : Int32} {v3 : Int32} {v4 : Int32} {h : Hp} {out : Int32} (O : (O_Mod_beginsAt G X h) out) (hm : lp (fun q => s_Mod_beginsAt_5 q.1 q.2.1 q.2.2 h) (v1, v3, v4) = some out) : J G X 5 [(0, .ref (G.1 + 84)), (1, .int v1), (3, .int v3), (4, .int v4)] [] h :=
  lp_ok (P := P_Mod_beginsAt_5 G X h) (O := (O_Mod_beginsAt G X h)) (fun q r hm O => w_Mod_beginsAt_5 C O hm) hm O
theorem w_Mod_beginsAt {G : jG} {X : jX} (C : jC G X cX12_beginsAt 5 RX12 2 90) {v1 : Int32} {v2 : Int32} {h : Hp} {out : Int32} (O : (O_Mod_beginsAt G X h) out) (hm : s_Mod_beginsAt v1 v2 h = some out) : J G X 0 [(0, .ref (G.1 + 84)), (1, .int v1), (2, .int v2)] [] h := by
  unfold s_Mod_beginsAt at hm
  refine j_iconst C 0 dX12_beginsAt_0 (by decide) ?_
  refine j_istore_n C [(3, .int ((0 : Int32))), (0, .ref (G.1 + 84)), (1, .int v1), (2, .int v2)] dX12_beginsAt_1 rfl (by decide) rfl ?_
  refine j_iload_n C 3 dX12_beginsAt_2 rfl rfl ?_
  refine j_istore C [(4, .int v2), (3, .int ((0 : Int32))), (0, .ref (G.1 + 84)), (1, .int v1), (2, .int v2)] dX12_beginsAt_3 (by decide) rfl ?_
  refine j_sub (L' := [(0, .ref (G.1 + 84)), (1, .int v1), (3, .int ((0 : Int32))), (4, .int v2)]) [2, 3, 1, 0] rfl ?_
  exact k_Mod_beginsAt_5 C O hm
theorem c_Mod_beginsAt {G : jG} {l : Launch} {v1 : Int32} {v2 : Int32} {h : Hp} {out : Int32} (hm : s_Mod_beginsAt v1 v2 h = some out) : mt G l yX12_beginsAt cX12_beginsAt 5 (some .int) 2 90 [.ref (G.1 + 84), .int v1, .int v2] h (some (.int out)) h :=
  mt_of (by decide) (Nat.le_of_ble_eq_true rfl) _ rfl (fun X I C O => w_Mod_beginsAt C O hm)
noncomputable def b_Mod_orders_43 (rc0 : Int32 → Int32 → Int32 → Int32 → Hp → Option Hp) (v5 : Int32) (v6 : Int32) (h : Hp) : Option ((Int32 × Int32 × Hp) ⊕ Hp) :=
  if v5 ≤ v6 then
    some (.inr h)
  else
    ib v6 6 <| ib v6 6 <| lt (sI h 105 (ix v6) (hI h 104 (ix v6))) fun h1 => ib v6 6 <| ib v6 6 <| ib (hI h1 104 (ix v6)) 6 <| ib (hI h1 104 (ix v6)) 6 <| some (.inl (v5, (v6 + (1 : Int32)), (sI h1 107 (ix (hI h1 104 (ix v6))) (hI h1 106 (ix (hI h1 104 (ix v6)))))))
noncomputable def b_Mod_orders_34 (rc0 : Int32 → Int32 → Int32 → Int32 → Hp → Option Hp) (v4 : Int32) (v5 : Int32) (h : Hp) : Option Hp :=
  lp (fun q => b_Mod_orders_43 rc0 q.1 q.2.1 q.2.2) (v5, ((0 : Int32)), (sI h 84 38 v4))
noncomputable def b_Mod_orders_216 (rc0 : Int32 → Int32 → Int32 → Int32 → Hp → Option Hp) (v1 : Int32) (v2 : Int32) (v3 : Int32) (v4 : Int32) (v5 : Int32) (v6 : Int32) (h : Hp) : Option ((Int32 × Int32 × Int32 × Int32 × Int32 × Int32 × Hp) ⊕ Hp) :=
  some (.inl (v1, v2, v3, v4, v5, (v6 + (1 : Int32)), h))
noncomputable def b_Mod_orders_147 (rc0 : Int32 → Int32 → Int32 → Int32 → Hp → Option Hp) (v1 : Int32) (v2 : Int32) (v3 : Int32) (v4 : Int32) (v5 : Int32) (v6 : Int32) (v7 : Int32) (s0 : Int32) (s1 : Int32) (h : Hp) : Option ((Int32 × Int32 × Int32 × Int32 × Int32 × Int32 × Hp) ⊕ Hp) :=
  (s_Mod_beginsAt s1 s0 h).bind fun u1 => if u1 = ((-1 : Int32)) then
    b_Mod_orders_216 rc0 v1 v2 v3 v4 v5 v6 h
  else
    ib v1 6 <| lt (sI h 104 (ix v1) v6) fun h2 => ib v6 6 <| lt (sI h2 106 (ix v6) u1) fun h3 => ib ((((103 : Int32)) + (((3 : Int32)) * v6)) + ((1 : Int32))) 4998 <| (rc0 (v1 + ((1 : Int32))) (v2 ||| (z_shl ((1 : Int32)) v6)) (u1 + (hI h3 86 (ix ((((103 : Int32)) + (((3 : Int32)) * v6)) + ((1 : Int32)))))) ((v4 + u1) - v7) h3).bind fun u4 => b_Mod_orders_216 rc0 v1 v2 v3 v4 v5 v6 u4
noncomputable def b_Mod_orders_98 (rc0 : Int32 → Int32 → Int32 → Int32 → Hp → Option Hp) (v1 : Int32) (v2 : Int32) (v3 : Int32) (v4 : Int32) (v5 : Int32) (v6 : Int32) (h : Hp) : Option ((Int32 × Int32 × Int32 × Int32 × Int32 × Int32 × Hp) ⊕ Hp) :=
  if v5 ≤ v6 then
    some (.inr h)
  else
    if ((z_shr v2 v6) &&& ((1 : Int32))) = ((1 : Int32)) then
      b_Mod_orders_216 rc0 v1 v2 v3 v4 v5 v6 h
    else
      ib (((103 : Int32)) + (((3 : Int32)) * v6)) 4998 <| lt (hI h 86 (ix (((103 : Int32)) + (((3 : Int32)) * v6)))) fun x1 => if x1 ≤ v3 then
        b_Mod_orders_147 rc0 v1 v2 v3 v4 v5 v6 x1 v3 v6 h
      else
        b_Mod_orders_147 rc0 v1 v2 v3 v4 v5 v6 x1 x1 v6 h
noncomputable def b_Mod_orders (rc0 : Int32 → Int32 → Int32 → Int32 → Hp → Option Hp) (v1 : Int32) (v2 : Int32) (v3 : Int32) (v4 : Int32) (h : Hp) : Option Hp :=
  ib ((186 : Int32)) 4998 <| if v1 = (hI h 86 (ix ((186 : Int32)))) then
    if (hI h 84 38) = ((-1 : Int32)) then
      b_Mod_orders_34 rc0 v4 (hI h 86 (ix ((186 : Int32)))) h
    else
      if v4 < (hI h 84 38) then
        b_Mod_orders_34 rc0 v4 (hI h 86 (ix ((186 : Int32)))) h
      else
        some h
  else
    lp (fun q => b_Mod_orders_98 rc0 q.1 q.2.1 q.2.2.1 q.2.2.2.1 q.2.2.2.2.1 q.2.2.2.2.2.1 q.2.2.2.2.2.2) (v1, v2, v3, v4, (hI h 86 (ix ((186 : Int32)))), ((0 : Int32)), h)
noncomputable def r_Mod_orders : Nat → (Int32 → Int32 → Int32 → Int32 → Hp → Option Hp)
  | 0 => (fun _ _ _ _ _ => none)
  | d + 1 => (b_Mod_orders ((r_Mod_orders d)))
noncomputable def s_Mod_orders (v1 : Int32) (v2 : Int32) (v3 : Int32) (v4 : Int32) (h : Hp) : Option Hp := (r_Mod_orders 10) v1 v2 v3 v4 h
def O_Mod_orders (G : jG) (X : jX) (out : Hp) : Prop := jO G X (none) none out
def P_Mod_orders_43 (G : jG) (X : jX) (q : Int32 × Int32 × Hp) : Prop := J G X 43 [(0, .ref (G.1 + 84)), (5, .int q.1), (6, .int q.2.1)] [] q.2.2
def O_Mod_orders_43 (G : jG) (X : jX) (t : ((Int32 × Int32 × Hp) ⊕ Hp)) : Prop := Sum.elim (P_Mod_orders_43 G X) (O_Mod_orders G X) t
def P_Mod_orders_98 (G : jG) (X : jX) (q : Int32 × Int32 × Int32 × Int32 × Int32 × Int32 × Hp) : Prop := J G X 98 [(0, .ref (G.1 + 84)), (1, .int q.1), (2, .int q.2.1), (3, .int q.2.2.1), (4, .int q.2.2.2.1), (5, .int q.2.2.2.2.1), (6, .int q.2.2.2.2.2.1)] [] q.2.2.2.2.2.2
def O_Mod_orders_98 (G : jG) (X : jX) (t : ((Int32 × Int32 × Int32 × Int32 × Int32 × Int32 × Hp) ⊕ Hp)) : Prop := Sum.elim (P_Mod_orders_98 G X) (O_Mod_orders G X) t
theorem w_Mod_orders_43 {G : jG} {X : jX} {d : Nat} {rc0 : Int32 → Int32 → Int32 → Int32 → Hp → Option Hp} (C : jC G X cX12_orders 9 RX12 (3 + (d + 1)) (114 + 28 * (d + 1))) (IH0 : ∀ (l : Launch) (v1 : Int32) (v2 : Int32) (v3 : Int32) (v4 : Int32) (h : Hp) (out : Hp), rc0 v1 v2 v3 v4 h = some out → mt G l yX12_orders cX12_orders 9 (none) (3 + d) (114 + 28 * d) [.ref (G.1 + 84), .int v1, .int v2, .int v3, .int v4] h none out) {v5 : Int32} {v6 : Int32} {h : Hp} {out : ((Int32 × Int32 × Hp) ⊕ Hp)} (O : (O_Mod_orders_43 G X) out) (hm : b_Mod_orders_43 rc0 v5 v6 h = some out) : J G X 43 [(0, .ref (G.1 + 84)), (5, .int v5), (6, .int v6)] [] h := by
  unfold b_Mod_orders_43 at hm
  refine j_iload C 2 dX12_orders_43 rfl ?_
  refine j_iload C 1 dX12_orders_45 rfl ?_
  refine j_if_icmpge C 94 dX12_orders_47 (by decide) hm (fun hm => ?_) (fun hm => ?_)
  · obtain rfl := Option.some.inj hm
    exact j_vret C O dX12_orders_94
  · refine j_aload_n C 0 dX12_orders_50 rfl rfl ?_
    refine j_gS C f_X12_85 n_84 q_84_35 dX12_orders_51 ?_
    refine j_iload C 2 dX12_orders_54 rfl ?_
    refine j_aload_n C 0 dX12_orders_56 rfl rfl ?_
    refine j_gS C f_X12_82 n_84 q_84_34 dX12_orders_57 ?_
    refine j_iload C 2 dX12_orders_60 rfl ?_
    refine j_iald C n_104 hm dX12_orders_62 (fun hm => ?_)
    refine j_iast C n_105 hm dX12_orders_63 (fun hm => ?_)
    refine j_aload_n C 0 dX12_orders_64 rfl rfl ?_
    refine j_nmH hm (fun h1 hm => ?_)
    refine j_gS C f_X12_91 n_84 q_84_37 dX12_orders_65 ?_
    refine j_aload_n C 0 dX12_orders_68 rfl rfl ?_
    refine j_gS C f_X12_82 n_84 q_84_34 dX12_orders_69 ?_
    refine j_iload C 2 dX12_orders_72 rfl ?_
    refine j_iald C n_104 hm dX12_orders_74 (fun hm => ?_)
    refine j_aload_n C 0 dX12_orders_75 rfl rfl ?_
    refine j_gS C f_X12_88 n_84 q_84_36 dX12_orders_76 ?_
    refine j_aload_n C 0 dX12_orders_79 rfl rfl ?_
    refine j_gS C f_X12_82 n_84 q_84_34 dX12_orders_80 ?_
    refine j_iload C 2 dX12_orders_83 rfl ?_
    refine j_iald C n_104 hm dX12_orders_85 (fun hm => ?_)
    refine j_iald C n_106 hm dX12_orders_86 (fun hm => ?_)
    refine j_iast C n_107 hm dX12_orders_87 (fun hm => ?_)
    refine j_iinc C 2 [(6, .int (v6 + (1 : Int32))), (0, .ref (G.1 + 84)), (5, .int v5)] dX12_orders_88 rfl (add_lit (by decide)) (by decide) rfl ?_
    refine j_goto C 43 dX12_orders_91 (by decide) ?_
    obtain rfl := Option.some.inj hm
    refine j_sub (L' := [(0, .ref (G.1 + 84)), (5, .int v5), (6, .int (v6 + (1 : Int32)))]) [1, 2, 0] rfl ?_
    exact O
theorem k_Mod_orders_43 {G : jG} {X : jX} {d : Nat} {rc0 : Int32 → Int32 → Int32 → Int32 → Hp → Option Hp} (C : jC G X cX12_orders 9 RX12 (3 + (d + 1)) (114 + 28 * (d + 1))) (IH0 : ∀ (l : Launch) (v1 : Int32) (v2 : Int32) (v3 : Int32) (v4 : Int32) (h : Hp) (out : Hp), rc0 v1 v2 v3 v4 h = some out → mt G l yX12_orders cX12_orders 9 (none) (3 + d) (114 + 28 * d) [.ref (G.1 + 84), .int v1, .int v2, .int v3, .int v4] h none out) {v5 : Int32} {v6 : Int32} {h : Hp} {out : Hp} (O : (O_Mod_orders G X) out) (hm : lp (fun q => b_Mod_orders_43 rc0 q.1 q.2.1 q.2.2) (v5, v6, h) = some out) : J G X 43 [(0, .ref (G.1 + 84)), (5, .int v5), (6, .int v6)] [] h :=
  lp_ok (P := P_Mod_orders_43 G X) (O := (O_Mod_orders G X)) (fun q r hm O => w_Mod_orders_43 C IH0 O hm) hm O
theorem w_Mod_orders_34 {G : jG} {X : jX} {d : Nat} {rc0 : Int32 → Int32 → Int32 → Int32 → Hp → Option Hp} (C : jC G X cX12_orders 9 RX12 (3 + (d + 1)) (114 + 28 * (d + 1))) (IH0 : ∀ (l : Launch) (v1 : Int32) (v2 : Int32) (v3 : Int32) (v4 : Int32) (h : Hp) (out : Hp), rc0 v1 v2 v3 v4 h = some out → mt G l yX12_orders cX12_orders 9 (none) (3 + d) (114 + 28 * d) [.ref (G.1 + 84), .int v1, .int v2, .int v3, .int v4] h none out) {v4 : Int32} {v5 : Int32} {h : Hp} {out : Hp} (O : (O_Mod_orders G X) out) (hm : b_Mod_orders_34 rc0 v4 v5 h = some out) : J G X 34 [(0, .ref (G.1 + 84)), (4, .int v4), (5, .int v5)] [] h := by
  unfold b_Mod_orders_34 at hm
  refine j_aload_n C 0 dX12_orders_34 rfl rfl ?_
  refine j_iload C 1 dX12_orders_35 rfl ?_
  refine j_pI C f_X12_377 n_84 dX12_orders_37 ?_
  refine j_iconst C 0 dX12_orders_40 (by decide) ?_
  refine j_istore C [(6, .int ((0 : Int32))), (0, .ref (G.1 + 84)), (4, .int v4), (5, .int v5)] dX12_orders_41 (by decide) rfl ?_
  refine j_sub (L' := [(0, .ref (G.1 + 84)), (5, .int v5), (6, .int ((0 : Int32)))]) [1, 3, 0] rfl ?_
  exact k_Mod_orders_43 C IH0 O hm
theorem w_Mod_orders_216 {G : jG} {X : jX} {d : Nat} {rc0 : Int32 → Int32 → Int32 → Int32 → Hp → Option Hp} (C : jC G X cX12_orders 9 RX12 (3 + (d + 1)) (114 + 28 * (d + 1))) (IH0 : ∀ (l : Launch) (v1 : Int32) (v2 : Int32) (v3 : Int32) (v4 : Int32) (h : Hp) (out : Hp), rc0 v1 v2 v3 v4 h = some out → mt G l yX12_orders cX12_orders 9 (none) (3 + d) (114 + 28 * d) [.ref (G.1 + 84), .int v1, .int v2, .int v3, .int v4] h none out) {v1 : Int32} {v2 : Int32} {v3 : Int32} {v4 : Int32} {v5 : Int32} {v6 : Int32} {h : Hp} {out : ((Int32 × Int32 × Int32 × Int32 × Int32 × Int32 × Hp) ⊕ Hp)} (O : (O_Mod_orders_98 G X) out) (hm : b_Mod_orders_216 rc0 v1 v2 v3 v4 v5 v6 h = some out) : J G X 216 [(0, .ref (G.1 + 84)), (1, .int v1), (2, .int v2), (3, .int v3), (4, .int v4), (5, .int v5), (6, .int v6)] [] h := by
  unfold b_Mod_orders_216 at hm
  refine j_iinc C 6 [(6, .int (v6 + (1 : Int32))), (0, .ref (G.1 + 84)), (1, .int v1), (2, .int v2), (3, .int v3), (4, .int v4), (5, .int v5)] dX12_orders_216 rfl (add_lit (by decide)) (by decide) rfl ?_
  refine j_goto C 98 dX12_orders_219 (by decide) ?_
  obtain rfl := Option.some.inj hm
  refine j_sub (L' := [(0, .ref (G.1 + 84)), (1, .int v1), (2, .int v2), (3, .int v3), (4, .int v4), (5, .int v5), (6, .int (v6 + (1 : Int32)))]) [1, 2, 3, 4, 5, 6, 0] rfl ?_
  exact O
theorem w_Mod_orders_147 {G : jG} {X : jX} {d : Nat} {rc0 : Int32 → Int32 → Int32 → Int32 → Hp → Option Hp} (C : jC G X cX12_orders 9 RX12 (3 + (d + 1)) (114 + 28 * (d + 1))) (IH0 : ∀ (l : Launch) (v1 : Int32) (v2 : Int32) (v3 : Int32) (v4 : Int32) (h : Hp) (out : Hp), rc0 v1 v2 v3 v4 h = some out → mt G l yX12_orders cX12_orders 9 (none) (3 + d) (114 + 28 * d) [.ref (G.1 + 84), .int v1, .int v2, .int v3, .int v4] h none out) {v1 : Int32} {v2 : Int32} {v3 : Int32} {v4 : Int32} {v5 : Int32} {v6 : Int32} {v7 : Int32} {s0 : Int32} {s1 : Int32} {h : Hp} {out : ((Int32 × Int32 × Int32 × Int32 × Int32 × Int32 × Hp) ⊕ Hp)} (O : (O_Mod_orders_98 G X) out) (hm : b_Mod_orders_147 rc0 v1 v2 v3 v4 v5 v6 v7 s0 s1 h = some out) : J G X 147 [(0, .ref (G.1 + 84)), (1, .int v1), (2, .int v2), (3, .int v3), (4, .int v4), (5, .int v5), (6, .int v6), (7, .int v7)] [.int s0, .int s1, .ref (G.1 + 84)] h := by
  unfold b_Mod_orders_147 at hm
  refine j_cV C l_X12_380 [.int s1, .int s0] [] (fun u1 => some (.int u1)) (fun _ => h) (fun u1 => [.int u1]) n_84 hm (fun l u hu => c_Mod_beginsAt hu) rfl (Nat.le_of_ble_eq_true rfl) rfl (by omega) (by omega) (fun _ => rfl) dX12_orders_147 (fun u1 hm => ?_)
  refine j_istore C [(8, .int u1), (0, .ref (G.1 + 84)), (1, .int v1), (2, .int v2), (3, .int v3), (4, .int v4), (5, .int v5), (6, .int v6), (7, .int v7)] dX12_orders_150 (by decide) rfl ?_
  refine j_iload C 0 dX12_orders_152 rfl ?_
  refine j_iconst C (-1 : Int32) dX12_orders_154 (by decide) ?_
  refine j_if_icmpne C 161 dX12_orders_155 (by decide) hm (fun hm => ?_) (fun hm => ?_)
  · refine j_goto C 216 dX12_orders_158 (by decide) ?_
    refine j_sub (L' := [(0, .ref (G.1 + 84)), (1, .int v1), (2, .int v2), (3, .int v3), (4, .int v4), (5, .int v5), (6, .int v6)]) [1, 2, 3, 4, 5, 6, 7] rfl ?_
    exact w_Mod_orders_216 C IH0 O hm
  · refine j_aload_n C 1 dX12_orders_161 rfl rfl ?_
    refine j_gS C f_X12_82 n_84 q_84_34 dX12_orders_162 ?_
    refine j_iload_n C 2 dX12_orders_165 rfl rfl ?_
    refine j_iload C 7 dX12_orders_166 rfl ?_
    refine j_iast C n_104 hm dX12_orders_168 (fun hm => ?_)
    refine j_aload_n C 1 dX12_orders_169 rfl rfl ?_
    refine j_nmH hm (fun h2 hm => ?_)
    refine j_gS C f_X12_88 n_84 q_84_36 dX12_orders_170 ?_
    refine j_iload C 7 dX12_orders_173 rfl ?_
    refine j_iload C 0 dX12_orders_175 rfl ?_
    refine j_iast C n_106 hm dX12_orders_177 (fun hm => ?_)
    refine j_aload_n C 1 dX12_orders_178 rfl rfl ?_
    refine j_iload_n C 2 dX12_orders_179 rfl rfl ?_
    refine j_iconst C 1 dX12_orders_180 (by decide) ?_
    refine j_iadd C dX12_orders_181 ?_
    refine j_iload_n C 3 dX12_orders_182 rfl rfl ?_
    refine j_iconst C 1 dX12_orders_183 (by decide) ?_
    refine j_iload C 7 dX12_orders_184 rfl ?_
    refine j_ishl C dX12_orders_186 ?_
    refine j_ior C dX12_orders_187 ?_
    refine j_iload C 0 dX12_orders_188 rfl ?_
    refine j_aload_n C 1 dX12_orders_190 rfl rfl ?_
    refine j_nmH hm (fun h3 hm => ?_)
    refine j_gS C f_X12_20 n_84 q_84_3 dX12_orders_191 ?_
    refine j_bipush C 103 dX12_orders_194 (by decide) ?_
    refine j_iconst C 3 dX12_orders_196 (by decide) ?_
    refine j_iload C 7 dX12_orders_197 rfl ?_
    refine j_imul C dX12_orders_199 ?_
    refine j_iadd C dX12_orders_200 ?_
    refine j_iconst C 1 dX12_orders_201 (by decide) ?_
    refine j_iadd C dX12_orders_202 ?_
    refine j_iald C n_86 hm dX12_orders_203 (fun hm => ?_)
    refine j_iadd C dX12_orders_204 ?_
    refine j_iload C 5 dX12_orders_205 rfl ?_
    refine j_iload C 0 dX12_orders_207 rfl ?_
    refine j_iadd C dX12_orders_209 ?_
    refine j_iload C 8 dX12_orders_210 rfl ?_
    refine j_isub C dX12_orders_212 ?_
    refine j_cV C l_X12_383 [.int (v1 + ((1 : Int32))), .int (v2 ||| (z_shl ((1 : Int32)) v6)), .int (u1 + (hI h3 86 (ix ((((103 : Int32)) + (((3 : Int32)) * v6)) + ((1 : Int32)))))), .int ((v4 + u1) - v7)] [] (fun _ => none) (fun u4 => u4) (fun u4 => []) n_84 hm (fun l u hu => IH0 _ _ _ _ _ _ _ hu) rfl (Nat.le_of_ble_eq_true rfl) rfl (by omega) (by omega) (fun _ => rfl) dX12_orders_213 (fun u4 hm => ?_)
    refine j_sub (L' := [(0, .ref (G.1 + 84)), (1, .int v1), (2, .int v2), (3, .int v3), (4, .int v4), (5, .int v5), (6, .int v6)]) [1, 2, 3, 4, 5, 6, 7] rfl ?_
    exact w_Mod_orders_216 C IH0 O hm
theorem w_Mod_orders_98 {G : jG} {X : jX} {d : Nat} {rc0 : Int32 → Int32 → Int32 → Int32 → Hp → Option Hp} (C : jC G X cX12_orders 9 RX12 (3 + (d + 1)) (114 + 28 * (d + 1))) (IH0 : ∀ (l : Launch) (v1 : Int32) (v2 : Int32) (v3 : Int32) (v4 : Int32) (h : Hp) (out : Hp), rc0 v1 v2 v3 v4 h = some out → mt G l yX12_orders cX12_orders 9 (none) (3 + d) (114 + 28 * d) [.ref (G.1 + 84), .int v1, .int v2, .int v3, .int v4] h none out) {v1 : Int32} {v2 : Int32} {v3 : Int32} {v4 : Int32} {v5 : Int32} {v6 : Int32} {h : Hp} {out : ((Int32 × Int32 × Int32 × Int32 × Int32 × Int32 × Hp) ⊕ Hp)} (O : (O_Mod_orders_98 G X) out) (hm : b_Mod_orders_98 rc0 v1 v2 v3 v4 v5 v6 h = some out) : J G X 98 [(0, .ref (G.1 + 84)), (1, .int v1), (2, .int v2), (3, .int v3), (4, .int v4), (5, .int v5), (6, .int v6)] [] h := by
  unfold b_Mod_orders_98 at hm
  refine j_iload C 6 dX12_orders_98 rfl ?_
  refine j_iload C 5 dX12_orders_100 rfl ?_
  refine j_if_icmpge C 222 dX12_orders_102 (by decide) hm (fun hm => ?_) (fun hm => ?_)
  · obtain rfl := Option.some.inj hm
    exact j_vret C O dX12_orders_222
  · refine j_iload_n C 2 dX12_orders_105 rfl rfl ?_
    refine j_iload C 6 dX12_orders_106 rfl ?_
    refine j_ishr C dX12_orders_108 ?_
    refine j_iconst C 1 dX12_orders_109 (by decide) ?_
    refine j_iand C dX12_orders_110 ?_
    refine j_iconst C 1 dX12_orders_111 (by decide) ?_
    refine j_if_icmpne C 118 dX12_orders_112 (by decide) hm (fun hm => ?_) (fun hm => ?_)
    · refine j_goto C 216 dX12_orders_115 (by decide) ?_
      refine j_sub (L' := [(0, .ref (G.1 + 84)), (1, .int v1), (2, .int v2), (3, .int v3), (4, .int v4), (5, .int v5), (6, .int v6)]) [0, 1, 2, 3, 4, 5, 6] rfl ?_
      exact w_Mod_orders_216 C IH0 O hm
    · refine j_aload_n C 0 dX12_orders_118 rfl rfl ?_
      refine j_gS C f_X12_20 n_84 q_84_3 dX12_orders_119 ?_
      refine j_bipush C 103 dX12_orders_122 (by decide) ?_
      refine j_iconst C 3 dX12_orders_124 (by decide) ?_
      refine j_iload C 6 dX12_orders_125 rfl ?_
      refine j_imul C dX12_orders_127 ?_
      refine j_iadd C dX12_orders_128 ?_
      refine j_iald C n_86 hm dX12_orders_129 (fun hm => ?_)
      refine j_nmI hm (fun x1 hm => ?_)
      refine j_istore C [(7, .int x1), (0, .ref (G.1 + 84)), (1, .int v1), (2, .int v2), (3, .int v3), (4, .int v4), (5, .int v5), (6, .int v6)] dX12_orders_130 (by decide) rfl ?_
      refine j_aload_n C 1 dX12_orders_132 rfl rfl ?_
      refine j_iload C 7 dX12_orders_133 rfl ?_
      refine j_iload C 0 dX12_orders_135 rfl ?_
      refine j_iload_n C 4 dX12_orders_137 rfl rfl ?_
      refine j_if_icmple C 146 dX12_orders_138 (by decide) hm (fun hm => ?_) (fun hm => ?_)
      · refine j_iload_n C 4 dX12_orders_146 rfl rfl ?_
        refine j_sub (L' := [(0, .ref (G.1 + 84)), (1, .int v1), (2, .int v2), (3, .int v3), (4, .int v4), (5, .int v5), (6, .int v6), (7, .int x1)]) [1, 2, 3, 4, 5, 6, 7, 0] rfl ?_
        exact w_Mod_orders_147 C IH0 O hm
      · refine j_iload C 0 dX12_orders_141 rfl ?_
        refine j_goto C 147 dX12_orders_143 (by decide) ?_
        refine j_sub (L' := [(0, .ref (G.1 + 84)), (1, .int v1), (2, .int v2), (3, .int v3), (4, .int v4), (5, .int v5), (6, .int v6), (7, .int x1)]) [1, 2, 3, 4, 5, 6, 7, 0] rfl ?_
        exact w_Mod_orders_147 C IH0 O hm
theorem k_Mod_orders_98 {G : jG} {X : jX} {d : Nat} {rc0 : Int32 → Int32 → Int32 → Int32 → Hp → Option Hp} (C : jC G X cX12_orders 9 RX12 (3 + (d + 1)) (114 + 28 * (d + 1))) (IH0 : ∀ (l : Launch) (v1 : Int32) (v2 : Int32) (v3 : Int32) (v4 : Int32) (h : Hp) (out : Hp), rc0 v1 v2 v3 v4 h = some out → mt G l yX12_orders cX12_orders 9 (none) (3 + d) (114 + 28 * d) [.ref (G.1 + 84), .int v1, .int v2, .int v3, .int v4] h none out) {v1 : Int32} {v2 : Int32} {v3 : Int32} {v4 : Int32} {v5 : Int32} {v6 : Int32} {h : Hp} {out : Hp} (O : (O_Mod_orders G X) out) (hm : lp (fun q => b_Mod_orders_98 rc0 q.1 q.2.1 q.2.2.1 q.2.2.2.1 q.2.2.2.2.1 q.2.2.2.2.2.1 q.2.2.2.2.2.2) (v1, v2, v3, v4, v5, v6, h) = some out) : J G X 98 [(0, .ref (G.1 + 84)), (1, .int v1), (2, .int v2), (3, .int v3), (4, .int v4), (5, .int v5), (6, .int v6)] [] h :=
  lp_ok (P := P_Mod_orders_98 G X) (O := (O_Mod_orders G X)) (fun q r hm O => w_Mod_orders_98 C IH0 O hm) hm O
theorem w_Mod_orders {G : jG} {X : jX} {d : Nat} {rc0 : Int32 → Int32 → Int32 → Int32 → Hp → Option Hp} (C : jC G X cX12_orders 9 RX12 (3 + (d + 1)) (114 + 28 * (d + 1))) (IH0 : ∀ (l : Launch) (v1 : Int32) (v2 : Int32) (v3 : Int32) (v4 : Int32) (h : Hp) (out : Hp), rc0 v1 v2 v3 v4 h = some out → mt G l yX12_orders cX12_orders 9 (none) (3 + d) (114 + 28 * d) [.ref (G.1 + 84), .int v1, .int v2, .int v3, .int v4] h none out) {v1 : Int32} {v2 : Int32} {v3 : Int32} {v4 : Int32} {h : Hp} {out : Hp} (O : (O_Mod_orders G X) out) (hm : b_Mod_orders rc0 v1 v2 v3 v4 h = some out) : J G X 0 [(0, .ref (G.1 + 84)), (1, .int v1), (2, .int v2), (3, .int v3), (4, .int v4)] [] h := by
  unfold b_Mod_orders at hm
  refine j_aload_n C 0 dX12_orders_0 rfl rfl ?_
  refine j_gS C f_X12_20 n_84 q_84_3 dX12_orders_1 ?_
  refine j_sipush C 186 dX12_orders_4 (by decide) ?_
  refine j_iald C n_86 hm dX12_orders_7 (fun hm => ?_)
  refine j_istore C [(5, .int (hI h 86 (ix ((186 : Int32))))), (0, .ref (G.1 + 84)), (1, .int v1), (2, .int v2), (3, .int v3), (4, .int v4)] dX12_orders_8 (by decide) rfl ?_
  refine j_iload_n C 2 dX12_orders_10 rfl rfl ?_
  refine j_iload C 0 dX12_orders_11 rfl ?_
  refine j_if_icmpne C 95 dX12_orders_13 (by decide) hm (fun hm => ?_) (fun hm => ?_)
  · refine j_aload_n C 1 dX12_orders_16 rfl rfl ?_
    refine j_gI C f_X12_377 n_84 dX12_orders_17 ?_
    refine j_iconst C (-1 : Int32) dX12_orders_20 (by decide) ?_
    refine j_if_icmpeq C 34 dX12_orders_21 (by decide) hm (fun hm => ?_) (fun hm => ?_)
    · refine j_sub (L' := [(0, .ref (G.1 + 84)), (4, .int v4), (5, .int (hI h 86 (ix ((186 : Int32)))))]) [1, 5, 0] rfl ?_
      exact w_Mod_orders_34 C IH0 O hm
    · refine j_iload C 5 dX12_orders_24 rfl ?_
      refine j_aload_n C 1 dX12_orders_26 rfl rfl ?_
      refine j_gI C f_X12_377 n_84 dX12_orders_27 ?_
      refine j_if_icmplt C 34 dX12_orders_30 (by decide) hm (fun hm => ?_) (fun hm => ?_)
      · refine j_sub (L' := [(0, .ref (G.1 + 84)), (4, .int v4), (5, .int (hI h 86 (ix ((186 : Int32)))))]) [1, 5, 0] rfl ?_
        exact w_Mod_orders_34 C IH0 O hm
      · obtain rfl := Option.some.inj hm
        exact j_vret C O dX12_orders_33
  · refine j_iconst C 0 dX12_orders_95 (by decide) ?_
    refine j_istore C [(6, .int ((0 : Int32))), (5, .int (hI h 86 (ix ((186 : Int32))))), (0, .ref (G.1 + 84)), (1, .int v1), (2, .int v2), (3, .int v3), (4, .int v4)] dX12_orders_96 (by decide) rfl ?_
    refine j_sub (L' := [(0, .ref (G.1 + 84)), (1, .int v1), (2, .int v2), (3, .int v3), (4, .int v4), (5, .int (hI h 86 (ix ((186 : Int32))))), (6, .int ((0 : Int32)))]) [2, 3, 4, 5, 6, 1, 0] rfl ?_
    exact k_Mod_orders_98 C IH0 O hm
theorem c_r_Mod_orders {G : jG} : ∀ d : Nat, (∀ (l : Launch) (v1 : Int32) (v2 : Int32) (v3 : Int32) (v4 : Int32) (h : Hp) (out : Hp), (r_Mod_orders d) v1 v2 v3 v4 h = some out → mt G l yX12_orders cX12_orders 9 (none) (3 + d) (114 + 28 * d) [.ref (G.1 + 84), .int v1, .int v2, .int v3, .int v4] h none out)
  | 0 => fun _ _ _ _ _ _ _ e => (by cases e)
  | d + 1 => by
    have g0 := c_r_Mod_orders (G := G) d
    exact fun l v1 v2 v3 v4 h out hm => mt_of (by decide) (Nat.le_of_ble_eq_true rfl) _ rfl (fun X _ C O => w_Mod_orders C g0 O hm)
theorem c_Mod_orders {G : jG} {l : Launch} {v1 : Int32} {v2 : Int32} {v3 : Int32} {v4 : Int32} {h : Hp} {out : Hp} (hm : s_Mod_orders v1 v2 v3 v4 h = some out) : mt G l yX12_orders cX12_orders 9 (none) 13 394 [.ref (G.1 + 84), .int v1, .int v2, .int v3, .int v4] h none out := (c_r_Mod_orders 10) l v1 v2 v3 v4 h out hm
noncomputable def s_Mod_laysOrders (h : Hp) : Option Hp :=
  (s_Mod_looks h).bind fun u1 => (s_Mod_orders ((0 : Int32)) ((0 : Int32)) ((0 : Int32)) ((0 : Int32)) (sI u1 84 38 ((-1 : Int32)))).bind fun u2 => some u2
def O_Mod_laysOrders (G : jG) (X : jX) (out : Hp) : Prop := jO G X (none) none out
theorem w_Mod_laysOrders {G : jG} {X : jX} (C : jC G X cX12_laysOrders 1 RX12 179 4679) {h : Hp} {out : Hp} (O : (O_Mod_laysOrders G X) out) (hm : s_Mod_laysOrders h = some out) : J G X 0 [(0, .ref (G.1 + 84))] [] h := by
  unfold s_Mod_laysOrders at hm
  refine j_aload_n C 0 dX12_laysOrders_0 rfl rfl ?_
  refine j_cV C l_X12_321 [] [] (fun _ => none) (fun u1 => u1) (fun u1 => []) n_84 hm (fun l u hu => c_Mod_looks hu) rfl (Nat.le_of_ble_eq_true rfl) rfl (Nat.le_of_ble_eq_true rfl) (Nat.le_of_ble_eq_true rfl) (fun _ => rfl) dX12_laysOrders_1 (fun u1 hm => ?_)
  refine j_aload_n C 0 dX12_laysOrders_4 rfl rfl ?_
  refine j_iconst C (-1 : Int32) dX12_laysOrders_5 (by decide) ?_
  refine j_pI C f_X12_377 n_84 dX12_laysOrders_6 ?_
  refine j_aload_n C 0 dX12_laysOrders_9 rfl rfl ?_
  refine j_iconst C 0 dX12_laysOrders_10 (by decide) ?_
  refine j_iconst C 0 dX12_laysOrders_11 (by decide) ?_
  refine j_iconst C 0 dX12_laysOrders_12 (by decide) ?_
  refine j_iconst C 0 dX12_laysOrders_13 (by decide) ?_
  refine j_cV C l_X12_383 [.int ((0 : Int32)), .int ((0 : Int32)), .int ((0 : Int32)), .int ((0 : Int32))] [] (fun _ => none) (fun u2 => u2) (fun u2 => []) n_84 hm (fun l u hu => c_Mod_orders hu) rfl (Nat.le_of_ble_eq_true rfl) rfl (Nat.le_of_ble_eq_true rfl) (Nat.le_of_ble_eq_true rfl) (fun _ => rfl) dX12_laysOrders_14 (fun u2 hm => ?_)
  obtain rfl := Option.some.inj hm
  exact j_vret C O dX12_laysOrders_17
theorem c_Mod_laysOrders {G : jG} {l : Launch} {h : Hp} {out : Hp} (hm : s_Mod_laysOrders h = some out) : mt G l yX12_laysOrders cX12_laysOrders 1 (none) 179 4679 [.ref (G.1 + 84)] h none out :=
  mt_of (by decide) (Nat.le_of_ble_eq_true rfl) _ rfl (fun X I C O => w_Mod_laysOrders C O hm)
noncomputable def s_Mod_begins_42 (s0 : Int32) (h : Hp) : Option (Int32 × Hp) :=
  some (s0, h)
noncomputable def s_Mod_begins (v1 : Int32) (h : Hp) : Option (Int32 × Hp) :=
  ib ((186 : Int32)) 4998 <| (s_Mod_lies v1 ((0 : Int32)) ((hI h 86 (ix ((186 : Int32)))) - ((1 : Int32))) h).bind fun u1 => if u1 = 0 then
    some ((-1 : Int32), h)
  else
    (s_Mod_laysOrders h).bind fun u2 => if (hI u2 84 38) = ((-1 : Int32)) then
      s_Mod_begins_42 ((-1 : Int32)) u2
    else
      ib v1 6 <| s_Mod_begins_42 (hI u2 107 (ix v1)) u2
def O_Mod_begins (G : jG) (X : jX) (out : (Int32 × Hp)) : Prop := jO G X (some .int) (some (.int out.1)) out.2
theorem w_Mod_begins_42 {G : jG} {X : jX} (C : jC G X cX12_begins 2 RX12 180 4699) {s0 : Int32} {h : Hp} {out : (Int32 × Hp)} (O : (O_Mod_begins G X) out) (hm : s_Mod_begins_42 s0 h = some out) : J G X 42 [] [.int s0] h := by
  unfold s_Mod_begins_42 at hm
  obtain rfl := Option.some.inj hm
  exact j_iret C O dX12_begins_42
theorem w_Mod_begins {G : jG} {X : jX} (C : jC G X cX12_begins 2 RX12 180 4699) {v1 : Int32} {h : Hp} {out : (Int32 × Hp)} (O : (O_Mod_begins G X) out) (hm : s_Mod_begins v1 h = some out) : J G X 0 [(0, .ref (G.1 + 84)), (1, .int v1)] [] h := by
  unfold s_Mod_begins at hm
  refine j_iload_n C 1 dX12_begins_0 rfl rfl ?_
  refine j_iconst C 0 dX12_begins_1 (by decide) ?_
  refine j_aload_n C 0 dX12_begins_2 rfl rfl ?_
  refine j_gS C f_X12_20 n_84 q_84_3 dX12_begins_3 ?_
  refine j_sipush C 186 dX12_begins_6 (by decide) ?_
  refine j_iald C n_86 hm dX12_begins_9 (fun hm => ?_)
  refine j_iconst C 1 dX12_begins_10 (by decide) ?_
  refine j_isub C dX12_begins_11 ?_
  refine j_cS C l_X12_113 [.int v1, .int ((0 : Int32)), .int ((hI h 86 (ix ((186 : Int32)))) - ((1 : Int32)))] [] (fun u1 => some (.int u1)) (fun _ => h) (fun u1 => [.int u1]) hm (fun l u hu => c_Mod_lies hu) rfl (Nat.le_of_ble_eq_true rfl) rfl (Nat.le_of_ble_eq_true rfl) (Nat.le_of_ble_eq_true rfl) (fun _ => rfl) dX12_begins_12 (fun u1 hm => ?_)
  refine j_ifne C 20 dX12_begins_15 (by decide) hm (fun hm => ?_) (fun hm => ?_)
  · refine j_iconst C (-1 : Int32) dX12_begins_18 (by decide) ?_
    obtain rfl := Option.some.inj hm
    exact j_iret C O dX12_begins_19
  · refine j_aload_n C 0 dX12_begins_20 rfl rfl ?_
    refine j_cV C l_X12_387 [] [] (fun _ => none) (fun u2 => u2) (fun u2 => []) n_84 hm (fun l u hu => c_Mod_laysOrders hu) rfl (Nat.le_of_ble_eq_true rfl) rfl (Nat.le_of_ble_eq_true rfl) (Nat.le_of_ble_eq_true rfl) (fun _ => rfl) dX12_begins_21 (fun u2 hm => ?_)
    refine j_aload_n C 0 dX12_begins_24 rfl rfl ?_
    refine j_gI C f_X12_377 n_84 dX12_begins_25 ?_
    refine j_iconst C (-1 : Int32) dX12_begins_28 (by decide) ?_
    refine j_if_icmpne C 36 dX12_begins_29 (by decide) hm (fun hm => ?_) (fun hm => ?_)
    · refine j_iconst C (-1 : Int32) dX12_begins_32 (by decide) ?_
      refine j_goto C 42 dX12_begins_33 (by decide) ?_
      refine j_sub (L' := []) [] rfl ?_
      exact w_Mod_begins_42 C O hm
    · refine j_aload_n C 0 dX12_begins_36 rfl rfl ?_
      refine j_gS C f_X12_91 n_84 q_84_37 dX12_begins_37 ?_
      refine j_iload_n C 1 dX12_begins_40 rfl rfl ?_
      refine j_iald C n_107 hm dX12_begins_41 (fun hm => ?_)
      refine j_sub (L' := []) [] rfl ?_
      exact w_Mod_begins_42 C O hm
theorem c_Mod_begins {G : jG} {l : Launch} {v1 : Int32} {h : Hp} {out : (Int32 × Hp)} (hm : s_Mod_begins v1 h = some out) : mt G l yX12_begins cX12_begins 2 (some .int) 180 4699 [.ref (G.1 + 84), .int v1] h (some (.int out.1)) out.2 :=
  mt_of (by decide) (Nat.le_of_ble_eq_true rfl) _ rfl (fun X I C O => w_Mod_begins C O hm)
noncomputable def s_Mod_kindOf (v1 : Int32) (h : Hp) : Option Int32 :=
  ib (((41 : Int32)) + v1) 4998 <| some (hI h 86 (ix (((41 : Int32)) + v1)))
def O_Mod_kindOf (G : jG) (X : jX) (h : Hp) (out : Int32) : Prop := jO G X (some .int) (some (.int out)) h
theorem w_Mod_kindOf {G : jG} {X : jX} (C : jC G X cX12_kindOf 2 RX12 1 70) {v1 : Int32} {h : Hp} {out : Int32} (O : (O_Mod_kindOf G X h) out) (hm : s_Mod_kindOf v1 h = some out) : J G X 0 [(0, .ref (G.1 + 84)), (1, .int v1)] [] h := by
  unfold s_Mod_kindOf at hm
  refine j_aload_n C 0 dX12_kindOf_0 rfl rfl ?_
  refine j_gS C f_X12_20 n_84 q_84_3 dX12_kindOf_1 ?_
  refine j_bipush C 41 dX12_kindOf_4 (by decide) ?_
  refine j_iload_n C 1 dX12_kindOf_6 rfl rfl ?_
  refine j_iadd C dX12_kindOf_7 ?_
  refine j_iald C n_86 hm dX12_kindOf_8 (fun hm => ?_)
  obtain rfl := Option.some.inj hm
  exact j_iret C O dX12_kindOf_9
theorem c_Mod_kindOf {G : jG} {l : Launch} {v1 : Int32} {h : Hp} {out : Int32} (hm : s_Mod_kindOf v1 h = some out) : mt G l yX12_kindOf cX12_kindOf 2 (some .int) 1 70 [.ref (G.1 + 84), .int v1] h (some (.int out)) h :=
  mt_of (by decide) (Nat.le_of_ble_eq_true rfl) _ rfl (fun X I C O => w_Mod_kindOf C O hm)
noncomputable def s_Mod_canBe_45 (s0 : Int32) (h : Hp) : Option Int32 :=
  bz s0 <| some (s0)
noncomputable def s_Mod_canBe_44 (h : Hp) : Option Int32 :=
  s_Mod_canBe_45 ((0 : Int32)) h
noncomputable def s_Mod_canBe (v1 : Int32) (v2 : Int32) (v3 : Int32) (h : Hp) : Option Int32 :=
  (s_Mod_kindOf v2 h).bind fun u1 => if u1 = 0 then
    s_Mod_canBe_44 h
  else
    (s_Mod_kindOf v2 h).bind fun u2 => ib ((((1440 : Int32)) * u2) + v3) 8640 <| ib ((((91 : Int32)) + (((2 : Int32)) * v1)) + ((1 : Int32))) 4998 <| if (hI h 86 (ix ((((91 : Int32)) + (((2 : Int32)) * v1)) + ((1 : Int32))))) < (hI h 99 (ix ((((1440 : Int32)) * u2) + v3))) then
      s_Mod_canBe_44 h
    else
      s_Mod_canBe_45 ((1 : Int32)) h
def O_Mod_canBe (G : jG) (X : jX) (h : Hp) (out : Int32) : Prop := jO G X (some .boolean) (some (.int out)) h
theorem w_Mod_canBe_45 {G : jG} {X : jX} (C : jC G X cX12_canBe 4 RX12 2 91) {s0 : Int32} {h : Hp} {out : Int32} (O : (O_Mod_canBe G X h) out) (hm : s_Mod_canBe_45 s0 h = some out) : J G X 45 [] [.int s0] h := by
  unfold s_Mod_canBe_45 at hm
  obtain ⟨cz, hm⟩ := bz_inv hm
  obtain rfl := Option.some.inj hm
  exact j_zret C O cz dX12_canBe_45
theorem w_Mod_canBe_44 {G : jG} {X : jX} (C : jC G X cX12_canBe 4 RX12 2 91) {h : Hp} {out : Int32} (O : (O_Mod_canBe G X h) out) (hm : s_Mod_canBe_44 h = some out) : J G X 44 [] [] h := by
  unfold s_Mod_canBe_44 at hm
  refine j_iconst C 0 dX12_canBe_44 (by decide) ?_
  refine j_sub (L' := []) [] rfl ?_
  exact w_Mod_canBe_45 C O hm
theorem w_Mod_canBe {G : jG} {X : jX} (C : jC G X cX12_canBe 4 RX12 2 91) {v1 : Int32} {v2 : Int32} {v3 : Int32} {h : Hp} {out : Int32} (O : (O_Mod_canBe G X h) out) (hm : s_Mod_canBe v1 v2 v3 h = some out) : J G X 0 [(0, .ref (G.1 + 84)), (1, .int v1), (2, .int v2), (3, .int v3)] [] h := by
  unfold s_Mod_canBe at hm
  refine j_aload_n C 0 dX12_canBe_0 rfl rfl ?_
  refine j_iload_n C 2 dX12_canBe_1 rfl rfl ?_
  refine j_cV C l_X12_343 [.int v2] [] (fun u1 => some (.int u1)) (fun _ => h) (fun u1 => [.int u1]) n_84 hm (fun l u hu => c_Mod_kindOf hu) rfl (Nat.le_of_ble_eq_true rfl) rfl (Nat.le_of_ble_eq_true rfl) (Nat.le_of_ble_eq_true rfl) (fun _ => rfl) dX12_canBe_2 (fun u1 hm => ?_)
  refine j_ifeq C 44 dX12_canBe_5 (by decide) hm (fun hm => ?_) (fun hm => ?_)
  · refine j_sub (L' := []) [] rfl ?_
    exact w_Mod_canBe_44 C O hm
  · refine j_aload_n C 0 dX12_canBe_8 rfl rfl ?_
    refine j_gS C f_X12_67 n_84 q_84_29 dX12_canBe_9 ?_
    refine j_sipush C 1440 dX12_canBe_12 (by decide) ?_
    refine j_aload_n C 0 dX12_canBe_15 rfl rfl ?_
    refine j_iload_n C 2 dX12_canBe_16 rfl rfl ?_
    refine j_cV C l_X12_343 [.int v2] [.int ((1440 : Int32)), .ref (G.1 + 99)] (fun u2 => some (.int u2)) (fun _ => h) (fun u2 => [.int u2, .int ((1440 : Int32)), .ref (G.1 + 99)]) n_84 hm (fun l u hu => c_Mod_kindOf hu) rfl (Nat.le_of_ble_eq_true rfl) rfl (Nat.le_of_ble_eq_true rfl) (Nat.le_of_ble_eq_true rfl) (fun _ => rfl) dX12_canBe_17 (fun u2 hm => ?_)
    refine j_imul C dX12_canBe_20 ?_
    refine j_iload_n C 3 dX12_canBe_21 rfl rfl ?_
    refine j_iadd C dX12_canBe_22 ?_
    refine j_bald C n_99 hm dX12_canBe_23 (fun hm => ?_)
    refine j_aload_n C 0 dX12_canBe_24 rfl rfl ?_
    refine j_gS C f_X12_20 n_84 q_84_3 dX12_canBe_25 ?_
    refine j_bipush C 91 dX12_canBe_28 (by decide) ?_
    refine j_iconst C 2 dX12_canBe_30 (by decide) ?_
    refine j_iload_n C 1 dX12_canBe_31 rfl rfl ?_
    refine j_imul C dX12_canBe_32 ?_
    refine j_iadd C dX12_canBe_33 ?_
    refine j_iconst C 1 dX12_canBe_34 (by decide) ?_
    refine j_iadd C dX12_canBe_35 ?_
    refine j_iald C n_86 hm dX12_canBe_36 (fun hm => ?_)
    refine j_if_icmpgt C 44 dX12_canBe_37 (by decide) hm (fun hm => ?_) (fun hm => ?_)
    · refine j_sub (L' := []) [] rfl ?_
      exact w_Mod_canBe_44 C O hm
    · refine j_iconst C 1 dX12_canBe_40 (by decide) ?_
      refine j_goto C 45 dX12_canBe_41 (by decide) ?_
      refine j_sub (L' := []) [] rfl ?_
      exact w_Mod_canBe_45 C O hm
theorem c_Mod_canBe {G : jG} {l : Launch} {v1 : Int32} {v2 : Int32} {v3 : Int32} {h : Hp} {out : Int32} (hm : s_Mod_canBe v1 v2 v3 h = some out) : mt G l yX12_canBe cX12_canBe 4 (some .boolean) 2 91 [.ref (G.1 + 84), .int v1, .int v2, .int v3] h (some (.int out)) h :=
  mt_of (by decide) (Nat.le_of_ble_eq_true rfl) _ rfl (fun X I C O => w_Mod_canBe C O hm)
noncomputable def s_Mod_minuteOf (v0 : Int32) (v1 : Int32) (h : Hp) : Option Int32 :=
  (s_Mod_near ((((10 : Int64)) * (Int32.toInt64 v0)) + (Int32.toInt64 v1)) ((0 : Int32)) ((1439 : Int32)) h).bind fun u1 => some (u1)
def O_Mod_minuteOf (G : jG) (X : jX) (h : Hp) (out : Int32) : Prop := jO G X (some .int) (some (.int out)) h
theorem w_Mod_minuteOf {G : jG} {X : jX} (C : jC G X cX12_minuteOf 2 RX12 2 93) {v0 : Int32} {v1 : Int32} {h : Hp} {out : Int32} (O : (O_Mod_minuteOf G X h) out) (hm : s_Mod_minuteOf v0 v1 h = some out) : J G X 0 [(0, .int v0), (1, .int v1)] [] h := by
  unfold s_Mod_minuteOf at hm
  refine j_ldc2 C wd_1801 dX12_minuteOf_0 ?_
  refine j_iload_n C 0 dX12_minuteOf_3 rfl rfl ?_
  refine j_i2l C dX12_minuteOf_4 ?_
  refine j_lmul C dX12_minuteOf_5 ?_
  refine j_iload_n C 1 dX12_minuteOf_6 rfl rfl ?_
  refine j_i2l C dX12_minuteOf_7 ?_
  refine j_ladd C dX12_minuteOf_8 ?_
  refine j_iconst C 0 dX12_minuteOf_9 (by decide) ?_
  refine j_sipush C 1439 dX12_minuteOf_10 (by decide) ?_
  refine j_cS C l_X12_300 [.long ((((10 : Int64)) * (Int32.toInt64 v0)) + (Int32.toInt64 v1)), .int ((0 : Int32)), .int ((1439 : Int32))] [] (fun u1 => some (.int u1)) (fun _ => h) (fun u1 => [.int u1]) hm (fun l u hu => c_Mod_near hu) rfl (Nat.le_of_ble_eq_true rfl) rfl (Nat.le_of_ble_eq_true rfl) (Nat.le_of_ble_eq_true rfl) (fun _ => rfl) dX12_minuteOf_13 (fun u1 hm => ?_)
  obtain rfl := Option.some.inj hm
  exact j_iret C O dX12_minuteOf_16
theorem c_Mod_minuteOf {G : jG} {l : Launch} {v0 : Int32} {v1 : Int32} {h : Hp} {out : Int32} (hm : s_Mod_minuteOf v0 v1 h = some out) : mt G l yX12_minuteOf cX12_minuteOf 2 (some .int) 2 93 [.int v0, .int v1] h (some (.int out)) h :=
  mt_of (by decide) (Nat.le_of_ble_eq_true rfl) _ rfl (fun X I C O => w_Mod_minuteOf C O hm)
noncomputable def s_Mod_toOf_21 (s0 : Int32) (h : Hp) : Option Int32 :=
  some (s0)
noncomputable def s_Mod_toOf_41 (s0 : Int32) (h : Hp) : Option Int32 :=
  some (s0)
noncomputable def s_Mod_toOf_64 (s0 : Int32) (h : Hp) : Option Int32 :=
  some (s0)
noncomputable def s_Mod_toOf_78 (s0 : Int32) (h : Hp) : Option Int32 :=
  some (s0)
noncomputable def s_Mod_toOf (v0 : Int32) (v1 : Int32) (h : Hp) : Option Int32 :=
  if v1 = ((1 : Int32)) then
    if (z_rem v0 ((10 : Int32))) = ((9 : Int32)) then
      s_Mod_toOf_21 ((-1 : Int32)) h
    else
      s_Mod_toOf_21 (v0 + ((1 : Int32))) h
  else
    if v1 = ((2 : Int32)) then
      if (z_rem v0 ((10 : Int32))) = 0 then
        s_Mod_toOf_41 ((-1 : Int32)) h
      else
        s_Mod_toOf_41 (v0 - ((1 : Int32))) h
    else
      if v1 = ((3 : Int32)) then
        if ((50 : Int32)) ≤ (v0 + ((10 : Int32))) then
          s_Mod_toOf_64 ((-1 : Int32)) h
        else
          s_Mod_toOf_64 (v0 + ((10 : Int32))) h
      else
        if v1 = ((4 : Int32)) then
          s_Mod_toOf_78 (v0 - ((10 : Int32))) h
        else
          s_Mod_toOf_78 v0 h
def O_Mod_toOf (G : jG) (X : jX) (h : Hp) (out : Int32) : Prop := jO G X (some .int) (some (.int out)) h
theorem w_Mod_toOf_21 {G : jG} {X : jX} (C : jC G X cX12_toOf 2 RX12 1 70) {s0 : Int32} {h : Hp} {out : Int32} (O : (O_Mod_toOf G X h) out) (hm : s_Mod_toOf_21 s0 h = some out) : J G X 21 [] [.int s0] h := by
  unfold s_Mod_toOf_21 at hm
  obtain rfl := Option.some.inj hm
  exact j_iret C O dX12_toOf_21
theorem w_Mod_toOf_41 {G : jG} {X : jX} (C : jC G X cX12_toOf 2 RX12 1 70) {s0 : Int32} {h : Hp} {out : Int32} (O : (O_Mod_toOf G X h) out) (hm : s_Mod_toOf_41 s0 h = some out) : J G X 41 [] [.int s0] h := by
  unfold s_Mod_toOf_41 at hm
  obtain rfl := Option.some.inj hm
  exact j_iret C O dX12_toOf_41
theorem w_Mod_toOf_64 {G : jG} {X : jX} (C : jC G X cX12_toOf 2 RX12 1 70) {s0 : Int32} {h : Hp} {out : Int32} (O : (O_Mod_toOf G X h) out) (hm : s_Mod_toOf_64 s0 h = some out) : J G X 64 [] [.int s0] h := by
  unfold s_Mod_toOf_64 at hm
  obtain rfl := Option.some.inj hm
  exact j_iret C O dX12_toOf_64
theorem w_Mod_toOf_78 {G : jG} {X : jX} (C : jC G X cX12_toOf 2 RX12 1 70) {s0 : Int32} {h : Hp} {out : Int32} (O : (O_Mod_toOf G X h) out) (hm : s_Mod_toOf_78 s0 h = some out) : J G X 78 [] [.int s0] h := by
  unfold s_Mod_toOf_78 at hm
  obtain rfl := Option.some.inj hm
  exact j_iret C O dX12_toOf_78
theorem w_Mod_toOf {G : jG} {X : jX} (C : jC G X cX12_toOf 2 RX12 1 70) {v0 : Int32} {v1 : Int32} {h : Hp} {out : Int32} (O : (O_Mod_toOf G X h) out) (hm : s_Mod_toOf v0 v1 h = some out) : J G X 0 [(0, .int v0), (1, .int v1)] [] h := by
  unfold s_Mod_toOf at hm
  refine j_iload_n C 1 dX12_toOf_0 rfl rfl ?_
  refine j_iconst C 1 dX12_toOf_1 (by decide) ?_
  refine j_if_icmpne C 22 dX12_toOf_2 (by decide) hm (fun hm => ?_) (fun hm => ?_)
  · refine j_iload_n C 0 dX12_toOf_5 rfl rfl ?_
    refine j_bipush C 10 dX12_toOf_6 (by decide) ?_
    refine j_irem C dX12_toOf_8 (by decide) ?_
    refine j_bipush C 9 dX12_toOf_9 (by decide) ?_
    refine j_if_icmpne C 18 dX12_toOf_11 (by decide) hm (fun hm => ?_) (fun hm => ?_)
    · refine j_iconst C (-1 : Int32) dX12_toOf_14 (by decide) ?_
      refine j_goto C 21 dX12_toOf_15 (by decide) ?_
      refine j_sub (L' := []) [] rfl ?_
      exact w_Mod_toOf_21 C O hm
    · refine j_iload_n C 0 dX12_toOf_18 rfl rfl ?_
      refine j_iconst C 1 dX12_toOf_19 (by decide) ?_
      refine j_iadd C dX12_toOf_20 ?_
      refine j_sub (L' := []) [] rfl ?_
      exact w_Mod_toOf_21 C O hm
  · refine j_iload_n C 1 dX12_toOf_22 rfl rfl ?_
    refine j_iconst C 2 dX12_toOf_23 (by decide) ?_
    refine j_if_icmpne C 42 dX12_toOf_24 (by decide) hm (fun hm => ?_) (fun hm => ?_)
    · refine j_iload_n C 0 dX12_toOf_27 rfl rfl ?_
      refine j_bipush C 10 dX12_toOf_28 (by decide) ?_
      refine j_irem C dX12_toOf_30 (by decide) ?_
      refine j_ifne C 38 dX12_toOf_31 (by decide) hm (fun hm => ?_) (fun hm => ?_)
      · refine j_iconst C (-1 : Int32) dX12_toOf_34 (by decide) ?_
        refine j_goto C 41 dX12_toOf_35 (by decide) ?_
        refine j_sub (L' := []) [] rfl ?_
        exact w_Mod_toOf_41 C O hm
      · refine j_iload_n C 0 dX12_toOf_38 rfl rfl ?_
        refine j_iconst C 1 dX12_toOf_39 (by decide) ?_
        refine j_isub C dX12_toOf_40 ?_
        refine j_sub (L' := []) [] rfl ?_
        exact w_Mod_toOf_41 C O hm
    · refine j_iload_n C 1 dX12_toOf_42 rfl rfl ?_
      refine j_iconst C 3 dX12_toOf_43 (by decide) ?_
      refine j_if_icmpne C 65 dX12_toOf_44 (by decide) hm (fun hm => ?_) (fun hm => ?_)
      · refine j_iload_n C 0 dX12_toOf_47 rfl rfl ?_
        refine j_bipush C 10 dX12_toOf_48 (by decide) ?_
        refine j_iadd C dX12_toOf_50 ?_
        refine j_bipush C 50 dX12_toOf_51 (by decide) ?_
        refine j_if_icmpge C 63 dX12_toOf_53 (by decide) hm (fun hm => ?_) (fun hm => ?_)
        · refine j_iconst C (-1 : Int32) dX12_toOf_63 (by decide) ?_
          refine j_sub (L' := []) [] rfl ?_
          exact w_Mod_toOf_64 C O hm
        · refine j_iload_n C 0 dX12_toOf_56 rfl rfl ?_
          refine j_bipush C 10 dX12_toOf_57 (by decide) ?_
          refine j_iadd C dX12_toOf_59 ?_
          refine j_goto C 64 dX12_toOf_60 (by decide) ?_
          refine j_sub (L' := []) [] rfl ?_
          exact w_Mod_toOf_64 C O hm
      · refine j_iload_n C 1 dX12_toOf_65 rfl rfl ?_
        refine j_iconst C 4 dX12_toOf_66 (by decide) ?_
        refine j_if_icmpne C 77 dX12_toOf_67 (by decide) hm (fun hm => ?_) (fun hm => ?_)
        · refine j_iload_n C 0 dX12_toOf_70 rfl rfl ?_
          refine j_bipush C 10 dX12_toOf_71 (by decide) ?_
          refine j_isub C dX12_toOf_73 ?_
          refine j_goto C 78 dX12_toOf_74 (by decide) ?_
          refine j_sub (L' := []) [] rfl ?_
          exact w_Mod_toOf_78 C O hm
        · refine j_iload_n C 0 dX12_toOf_77 rfl rfl ?_
          refine j_sub (L' := []) [] rfl ?_
          exact w_Mod_toOf_78 C O hm
theorem c_Mod_toOf {G : jG} {l : Launch} {v0 : Int32} {v1 : Int32} {h : Hp} {out : Int32} (hm : s_Mod_toOf v0 v1 h = some out) : mt G l yX12_toOf cX12_toOf 2 (some .int) 1 70 [.int v0, .int v1] h (some (.int out)) h :=
  mt_of (by decide) (Nat.le_of_ble_eq_true rfl) _ rfl (fun X I C O => w_Mod_toOf C O hm)
