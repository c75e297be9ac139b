noncomputable def s_Reader_sortAt_56 (s0 : Int32) (h : Hp) : Option Int32 :=
  some (s0)
noncomputable def s_Reader_sortAt_55 (h : Hp) : Option Int32 :=
  s_Reader_sortAt_56 ((3 : Int32)) h
noncomputable def s_Reader_sortAt_39 (v2 : Int32) (h : Hp) : Option Int32 :=
  if v2 < ((48 : Int32)) then
    s_Reader_sortAt_55 h
  else
    if ((57 : Int32)) < v2 then
      s_Reader_sortAt_55 h
    else
      s_Reader_sortAt_56 ((2 : Int32)) h
noncomputable def s_Reader_sortAt (v1 : Int32) (h : Hp) : Option Int32 :=
  if v1 < (hI h 45 1) then
    ib v1 400 <| if (hI h 46 (ix v1)) < ((97 : Int32)) then
      s_Reader_sortAt_39 (hI h 46 (ix v1)) h
    else
      if ((122 : Int32)) < (hI h 46 (ix v1)) then
        s_Reader_sortAt_39 (hI h 46 (ix v1)) h
      else
        s_Reader_sortAt_56 ((1 : Int32)) h
  else
    some ((0 : Int32))
def O_Reader_sortAt (G : jG) (X : jX) (h : Hp) (out : Int32) : Prop := jO G X (some .int) (some (.int out)) h
theorem w_Reader_sortAt_56 {G : jG} {X : jX} (C : jC G X cX3_sortAt 3 RX3 1 70) {s0 : Int32} {h : Hp} {out : Int32} (O : (O_Reader_sortAt G X h) out) (hm : s_Reader_sortAt_56 s0 h = some out) : J G X 56 [] [.int s0] h := by
  unfold s_Reader_sortAt_56 at hm
  obtain rfl := Option.some.inj hm
  exact j_iret C O dX3_sortAt_56
theorem w_Reader_sortAt_55 {G : jG} {X : jX} (C : jC G X cX3_sortAt 3 RX3 1 70) {h : Hp} {out : Int32} (O : (O_Reader_sortAt G X h) out) (hm : s_Reader_sortAt_55 h = some out) : J G X 55 [] [] h := by
  unfold s_Reader_sortAt_55 at hm
  refine j_iconst C 3 dX3_sortAt_55 (by decide) ?_
  refine j_sub (L' := []) [] rfl ?_
  exact w_Reader_sortAt_56 C O hm
theorem w_Reader_sortAt_39 {G : jG} {X : jX} (C : jC G X cX3_sortAt 3 RX3 1 70) {v2 : Int32} {h : Hp} {out : Int32} (O : (O_Reader_sortAt G X h) out) (hm : s_Reader_sortAt_39 v2 h = some out) : J G X 39 [(2, .int v2)] [] h := by
  unfold s_Reader_sortAt_39 at hm
  refine j_iload_n C 0 dX3_sortAt_39 rfl rfl ?_
  refine j_bipush C 48 dX3_sortAt_40 (by decide) ?_
  refine j_if_icmplt C 55 dX3_sortAt_42 (by decide) hm (fun hm => ?_) (fun hm => ?_)
  · refine j_sub (L' := []) [] rfl ?_
    exact w_Reader_sortAt_55 C O hm
  · refine j_iload_n C 0 dX3_sortAt_45 rfl rfl ?_
    refine j_bipush C 57 dX3_sortAt_46 (by decide) ?_
    refine j_if_icmpgt C 55 dX3_sortAt_48 (by decide) hm (fun hm => ?_) (fun hm => ?_)
    · refine j_sub (L' := []) [] rfl ?_
      exact w_Reader_sortAt_55 C O hm
    · refine j_iconst C 2 dX3_sortAt_51 (by decide) ?_
      refine j_goto C 56 dX3_sortAt_52 (by decide) ?_
      refine j_sub (L' := []) [] rfl ?_
      exact w_Reader_sortAt_56 C O hm
theorem w_Reader_sortAt {G : jG} {X : jX} (C : jC G X cX3_sortAt 3 RX3 1 70) {v1 : Int32} {h : Hp} {out : Int32} (O : (O_Reader_sortAt G X h) out) (hm : s_Reader_sortAt v1 h = some out) : J G X 0 [(0, .ref (G.1 + 47)), (1, .int v1)] [] h := by
  unfold s_Reader_sortAt at hm
  refine j_iload_n C 1 dX3_sortAt_0 rfl rfl ?_
  refine j_aload_n C 0 dX3_sortAt_1 rfl rfl ?_
  refine j_gS C f_X3_42 n_47 q_47_0 dX3_sortAt_2 ?_
  refine j_gI C f_X3_163 n_45 dX3_sortAt_5 ?_
  refine j_if_icmplt C 13 dX3_sortAt_8 (by decide) hm (fun hm => ?_) (fun hm => ?_)
  · refine j_aload_n C 0 dX3_sortAt_13 rfl rfl ?_
    refine j_gS C f_X3_42 n_47 q_47_0 dX3_sortAt_14 ?_
    refine j_gS C f_X3_129 n_45 q_45_0 dX3_sortAt_17 ?_
    refine j_iload_n C 1 dX3_sortAt_20 rfl rfl ?_
    refine j_iald C n_46 hm dX3_sortAt_21 (fun hm => ?_)
    refine j_istore_n C [(2, .int (hI h 46 (ix v1))), (0, .ref (G.1 + 47)), (1, .int v1)] dX3_sortAt_22 rfl (by decide) rfl ?_
    refine j_iload_n C 0 dX3_sortAt_23 rfl rfl ?_
    refine j_bipush C 97 dX3_sortAt_24 (by decide) ?_
    refine j_if_icmplt C 39 dX3_sortAt_26 (by decide) hm (fun hm => ?_) (fun hm => ?_)
    · refine j_sub (L' := [(2, .int (hI h 46 (ix v1)))]) [0] rfl ?_
      exact w_Reader_sortAt_39 C O hm
    · refine j_iload_n C 0 dX3_sortAt_29 rfl rfl ?_
      refine j_bipush C 122 dX3_sortAt_30 (by decide) ?_
      refine j_if_icmpgt C 39 dX3_sortAt_32 (by decide) hm (fun hm => ?_) (fun hm => ?_)
      · refine j_sub (L' := [(2, .int (hI h 46 (ix v1)))]) [0] rfl ?_
        exact w_Reader_sortAt_39 C O hm
      · refine j_iconst C 1 dX3_sortAt_35 (by decide) ?_
        refine j_goto C 56 dX3_sortAt_36 (by decide) ?_
        refine j_sub (L' := []) [] rfl ?_
        exact w_Reader_sortAt_56 C O hm
  · refine j_iconst C 0 dX3_sortAt_11 (by decide) ?_
    obtain rfl := Option.some.inj hm
    exact j_iret C O dX3_sortAt_12
theorem c_Reader_sortAt {G : jG} {l : Launch} {v1 : Int32} {h : Hp} {out : Int32} (hm : s_Reader_sortAt v1 h = some out) : mt G l yX3_sortAt cX3_sortAt 3 (some .int) 1 70 [.ref (G.1 + 47), .int v1] h (some (.int out)) h :=
  mt_of (by decide) (Nat.le_of_ble_eq_true rfl) _ rfl (fun X I C O => w_Reader_sortAt C O hm)
noncomputable def s_Reader_advance_97 (v1 : Int32) (h : Hp) : Option Hp :=
  some (sI h 47 8 v1)
noncomputable def s_Reader_advance_60 (v1 : Int32) (h : Hp) : Option ((Int32 × Hp) ⊕ Hp) :=
  if (hI h 45 1) ≤ v1 then
    inr (s_Reader_advance_97 v1 h)
  else
    if (hI h 47 6) = ((3 : Int32)) then
      inr (s_Reader_advance_97 v1 h)
    else
      (s_Reader_sortAt v1 h).bind fun u1 => if u1 = (hI h 47 6) then
        some (.inl ((v1 + (1 : Int32)), h))
      else
        inr (s_Reader_advance_97 v1 h)
noncomputable def s_Reader_advance_36 (v1 : Int32) (h : Hp) : Option Hp :=
  (s_Reader_sortAt v1 (sI h 47 7 v1)).bind fun u1 => lt (sI (sI h 47 7 v1) 47 6 u1) fun h2 => if (hI h2 47 6) = 0 then
    lp (fun q => s_Reader_advance_60 q.1 q.2) (v1, h2)
  else
    lp (fun q => s_Reader_advance_60 q.1 q.2) ((v1 + (1 : Int32)), h2)
noncomputable def s_Reader_advance_5 (v1 : Int32) (h : Hp) : Option ((Int32 × Hp) ⊕ Hp) :=
  if (hI h 45 1) ≤ v1 then
    inr (s_Reader_advance_36 v1 h)
  else
    ib v1 400 <| if (hI h 46 (ix v1)) = ((32 : Int32)) then
      some (.inl ((v1 + (1 : Int32)), h))
    else
      inr (s_Reader_advance_36 v1 h)
noncomputable def s_Reader_advance (h : Hp) : Option Hp :=
  lp (fun q => s_Reader_advance_5 q.1 q.2) ((hI h 47 8), h)
def O_Reader_advance (G : jG) (X : jX) (out : Hp) : Prop := jO G X (none) none out
def P_Reader_advance_5 (G : jG) (X : jX) (q : Int32 × Hp) : Prop := J G X 5 [(0, .ref (G.1 + 47)), (1, .int q.1)] [] q.2
def O_Reader_advance_5 (G : jG) (X : jX) (t : ((Int32 × Hp) ⊕ Hp)) : Prop := Sum.elim (P_Reader_advance_5 G X) (O_Reader_advance G X) t
def P_Reader_advance_60 (G : jG) (X : jX) (q : Int32 × Hp) : Prop := J G X 60 [(0, .ref (G.1 + 47)), (1, .int q.1)] [] q.2
def O_Reader_advance_60 (G : jG) (X : jX) (t : ((Int32 × Hp) ⊕ Hp)) : Prop := Sum.elim (P_Reader_advance_60 G X) (O_Reader_advance G X) t
theorem w_Reader_advance_97 {G : jG} {X : jX} (C : jC G X cX3_advance 2 RX3 2 92) {v1 : Int32} {h : Hp} {out : Hp} (O : (O_Reader_advance G X) out) (hm : s_Reader_advance_97 v1 h = some out) : J G X 97 [(0, .ref (G.1 + 47)), (1, .int v1)] [] h := by
  unfold s_Reader_advance_97 at hm
  refine j_aload_n C 0 dX3_advance_97 rfl rfl ?_
  refine j_iload_n C 1 dX3_advance_98 rfl rfl ?_
  refine j_pI C f_X3_36 n_47 dX3_advance_99 ?_
  obtain rfl := Option.some.inj hm
  exact j_vret C O dX3_advance_102
theorem w_Reader_advance_60 {G : jG} {X : jX} (C : jC G X cX3_advance 2 RX3 2 92) {v1 : Int32} {h : Hp} {out : ((Int32 × Hp) ⊕ Hp)} (O : (O_Reader_advance_60 G X) out) (hm : s_Reader_advance_60 v1 h = some out) : J G X 60 [(0, .ref (G.1 + 47)), (1, .int v1)] [] h := by
  unfold s_Reader_advance_60 at hm
  refine j_iload_n C 1 dX3_advance_60 rfl rfl ?_
  refine j_aload_n C 0 dX3_advance_61 rfl rfl ?_
  refine j_gS C f_X3_42 n_47 q_47_0 dX3_advance_62 ?_
  refine j_gI C f_X3_163 n_45 dX3_advance_65 ?_
  refine j_if_icmpge C 97 dX3_advance_68 (by decide) hm (fun hm => ?_) (fun hm => ?_)
  · obtain ⟨o_0, hm_0, rfl⟩ := inr_inv hm
    refine j_sub (L' := [(0, .ref (G.1 + 47)), (1, .int v1)]) [0, 1] rfl ?_
    exact w_Reader_advance_97 C O hm_0
  · refine j_aload_n C 0 dX3_advance_71 rfl rfl ?_
    refine j_gI C f_X3_30 n_47 dX3_advance_72 ?_
    refine j_iconst C 3 dX3_advance_75 (by decide) ?_
    refine j_if_icmpeq C 97 dX3_advance_76 (by decide) hm (fun hm => ?_) (fun hm => ?_)
    · obtain ⟨o_0, hm_0, rfl⟩ := inr_inv hm
      refine j_sub (L' := [(0, .ref (G.1 + 47)), (1, .int v1)]) [0, 1] rfl ?_
      exact w_Reader_advance_97 C O hm_0
    · refine j_aload_n C 0 dX3_advance_79 rfl rfl ?_
      refine j_iload_n C 1 dX3_advance_80 rfl rfl ?_
      refine j_cV C l_X3_165 [.int v1] [] (fun u1 => some (.int u1)) (fun _ => h) (fun u1 => [.int u1]) n_47 hm (fun l u hu => c_Reader_sortAt hu) rfl (Nat.le_of_ble_eq_true rfl) rfl (Nat.le_of_ble_eq_true rfl) (Nat.le_of_ble_eq_true rfl) (fun _ => rfl) dX3_advance_81 (fun u1 hm => ?_)
      refine j_aload_n C 0 dX3_advance_84 rfl rfl ?_
      refine j_gI C f_X3_30 n_47 dX3_advance_85 ?_
      refine j_if_icmpne C 97 dX3_advance_88 (by decide) hm (fun hm => ?_) (fun hm => ?_)
      · refine j_iinc C 1 [(1, .int (v1 + (1 : Int32))), (0, .ref (G.1 + 47))] dX3_advance_91 rfl (add_lit (by decide)) (by decide) rfl ?_
        refine j_goto C 60 dX3_advance_94 (by decide) ?_
        obtain rfl := Option.some.inj hm
        refine j_sub (L' := [(0, .ref (G.1 + 47)), (1, .int (v1 + (1 : Int32)))]) [1, 0] rfl ?_
        exact O
      · obtain ⟨o_0, hm_0, rfl⟩ := inr_inv hm
        refine j_sub (L' := [(0, .ref (G.1 + 47)), (1, .int v1)]) [0, 1] rfl ?_
        exact w_Reader_advance_97 C O hm_0
theorem k_Reader_advance_60 {G : jG} {X : jX} (C : jC G X cX3_advance 2 RX3 2 92) {v1 : Int32} {h : Hp} {out : Hp} (O : (O_Reader_advance G X) out) (hm : lp (fun q => s_Reader_advance_60 q.1 q.2) (v1, h) = some out) : J G X 60 [(0, .ref (G.1 + 47)), (1, .int v1)] [] h :=
  lp_ok (P := P_Reader_advance_60 G X) (O := (O_Reader_advance G X)) (fun q r hm O => w_Reader_advance_60 C O hm) hm O
theorem w_Reader_advance_36 {G : jG} {X : jX} (C : jC G X cX3_advance 2 RX3 2 92) {v1 : Int32} {h : Hp} {out : Hp} (O : (O_Reader_advance G X) out) (hm : s_Reader_advance_36 v1 h = some out) : J G X 36 [(0, .ref (G.1 + 47)), (1, .int v1)] [] h := by
  unfold s_Reader_advance_36 at hm
  refine j_aload_n C 0 dX3_advance_36 rfl rfl ?_
  refine j_iload_n C 1 dX3_advance_37 rfl rfl ?_
  refine j_pI C f_X3_33 n_47 dX3_advance_38 ?_
  refine j_aload_n C 0 dX3_advance_41 rfl rfl ?_
  refine j_aload_n C 0 dX3_advance_42 rfl rfl ?_
  refine j_iload_n C 1 dX3_advance_43 rfl rfl ?_
  refine j_cV C l_X3_165 [.int v1] [.ref (G.1 + 47)] (fun u1 => some (.int u1)) (fun _ => sI h 47 7 v1) (fun u1 => [.int u1, .ref (G.1 + 47)]) n_47 hm (fun l u hu => c_Reader_sortAt hu) rfl (Nat.le_of_ble_eq_true rfl) rfl (Nat.le_of_ble_eq_true rfl) (Nat.le_of_ble_eq_true rfl) (fun _ => rfl) dX3_advance_44 (fun u1 hm => ?_)
  refine j_pI C f_X3_30 n_47 dX3_advance_47 ?_
  refine j_aload_n C 0 dX3_advance_50 rfl rfl ?_
  refine j_nmH hm (fun h2 hm => ?_)
  refine j_gI C f_X3_30 n_47 dX3_advance_51 ?_
  refine j_ifeq C 60 dX3_advance_54 (by decide) hm (fun hm => ?_) (fun hm => ?_)
  · refine j_sub (L' := [(0, .ref (G.1 + 47)), (1, .int v1)]) [0, 1] rfl ?_
    exact k_Reader_advance_60 C O hm
  · refine j_iinc C 1 [(1, .int (v1 + (1 : Int32))), (0, .ref (G.1 + 47))] dX3_advance_57 rfl (add_lit (by decide)) (by decide) rfl ?_
    refine j_sub (L' := [(0, .ref (G.1 + 47)), (1, .int (v1 + (1 : Int32)))]) [1, 0] rfl ?_
    exact k_Reader_advance_60 C O hm
theorem w_Reader_advance_5 {G : jG} {X : jX} (C : jC G X cX3_advance 2 RX3 2 92) {v1 : Int32} {h : Hp} {out : ((Int32 × Hp) ⊕ Hp)} (O : (O_Reader_advance_5 G X) out) (hm : s_Reader_advance_5 v1 h = some out) : J G X 5 [(0, .ref (G.1 + 47)), (1, .int v1)] [] h := by
  unfold s_Reader_advance_5 at hm
  refine j_iload_n C 1 dX3_advance_5 rfl rfl ?_
  refine j_aload_n C 0 dX3_advance_6 rfl rfl ?_
  refine j_gS C f_X3_42 n_47 q_47_0 dX3_advance_7 ?_
  refine j_gI C f_X3_163 n_45 dX3_advance_10 ?_
  refine j_if_icmpge C 36 dX3_advance_13 (by decide) hm (fun hm => ?_) (fun hm => ?_)
  · obtain ⟨o_0, hm_0, rfl⟩ := inr_inv hm
    refine j_sub (L' := [(0, .ref (G.1 + 47)), (1, .int v1)]) [0, 1] rfl ?_
    exact w_Reader_advance_36 C O hm_0
  · refine j_aload_n C 0 dX3_advance_16 rfl rfl ?_
    refine j_gS C f_X3_42 n_47 q_47_0 dX3_advance_17 ?_
    refine j_gS C f_X3_129 n_45 q_45_0 dX3_advance_20 ?_
    refine j_iload_n C 1 dX3_advance_23 rfl rfl ?_
    refine j_iald C n_46 hm dX3_advance_24 (fun hm => ?_)
    refine j_bipush C 32 dX3_advance_25 (by decide) ?_
    refine j_if_icmpne C 36 dX3_advance_27 (by decide) hm (fun hm => ?_) (fun hm => ?_)
    · refine j_iinc C 1 [(1, .int (v1 + (1 : Int32))), (0, .ref (G.1 + 47))] dX3_advance_30 rfl (add_lit (by decide)) (by decide) rfl ?_
      refine j_goto C 5 dX3_advance_33 (by decide) ?_
      obtain rfl := Option.some.inj hm
      refine j_sub (L' := [(0, .ref (G.1 + 47)), (1, .int (v1 + (1 : Int32)))]) [1, 0] rfl ?_
      exact O
    · obtain ⟨o_0, hm_0, rfl⟩ := inr_inv hm
      refine j_sub (L' := [(0, .ref (G.1 + 47)), (1, .int v1)]) [0, 1] rfl ?_
      exact w_Reader_advance_36 C O hm_0
theorem k_Reader_advance_5 {G : jG} {X : jX} (C : jC G X cX3_advance 2 RX3 2 92) {v1 : Int32} {h : Hp} {out : Hp} (O : (O_Reader_advance G X) out) (hm : lp (fun q => s_Reader_advance_5 q.1 q.2) (v1, h) = some out) : J G X 5 [(0, .ref (G.1 + 47)), (1, .int v1)] [] h :=
  lp_ok (P := P_Reader_advance_5 G X) (O := (O_Reader_advance G X)) (fun q r hm O => w_Reader_advance_5 C O hm) hm O
theorem w_Reader_advance {G : jG} {X : jX} (C : jC G X cX3_advance 2 RX3 2 92) {h : Hp} {out : Hp} (O : (O_Reader_advance G X) out) (hm : s_Reader_advance h = some out) : J G X 0 [(0, .ref (G.1 + 47))] [] h := by
  unfold s_Reader_advance at hm
  refine j_aload_n C 0 dX3_advance_0 rfl rfl ?_
  refine j_gI C f_X3_36 n_47 dX3_advance_1 ?_
  refine j_istore_n C [(1, .int (hI h 47 8)), (0, .ref (G.1 + 47))] dX3_advance_4 rfl (by decide) rfl ?_
  refine j_sub (L' := [(0, .ref (G.1 + 47)), (1, .int (hI h 47 8))]) [1, 0] rfl ?_
  exact k_Reader_advance_5 C O hm
theorem c_Reader_advance {G : jG} {l : Launch} {h : Hp} {out : Hp} (hm : s_Reader_advance h = some out) : mt G l yX3_advance cX3_advance 2 (none) 2 92 [.ref (G.1 + 47)] h none out :=
  mt_of (by decide) (Nat.le_of_ble_eq_true rfl) _ rfl (fun X I C O => w_Reader_advance C O hm)
noncomputable def s_Reader_fail (h : Hp) : Option (Int32 × Hp) :=
  some ((0 : Int32), sI h 47 9 (hI h 47 7))
def O_Reader_fail (G : jG) (X : jX) (out : (Int32 × Hp)) : Prop := jO G X (some .boolean) (some (.int out.1)) out.2
theorem w_Reader_fail {G : jG} {X : jX} (C : jC G X cX3_fail 1 RX3 1 70) {h : Hp} {out : (Int32 × Hp)} (O : (O_Reader_fail G X) out) (hm : s_Reader_fail h = some out) : J G X 0 [(0, .ref (G.1 + 47))] [] h := by
  unfold s_Reader_fail at hm
  refine j_aload_n C 0 dX3_fail_0 rfl rfl ?_
  refine j_aload_n C 0 dX3_fail_1 rfl rfl ?_
  refine j_gI C f_X3_33 n_47 dX3_fail_2 ?_
  refine j_pI C f_X3_39 n_47 dX3_fail_5 ?_
  refine j_iconst C 0 dX3_fail_8 (by decide) ?_
  obtain rfl := Option.some.inj hm
  exact j_zret C O (by decide) dX3_fail_9
theorem c_Reader_fail {G : jG} {l : Launch} {h : Hp} {out : (Int32 × Hp)} (hm : s_Reader_fail h = some out) : mt G l yX3_fail cX3_fail 1 (some .boolean) 1 70 [.ref (G.1 + 47)] h (some (.int out.1)) out.2 :=
  mt_of (by decide) (Nat.le_of_ble_eq_true rfl) _ rfl (fun X I C O => w_Reader_fail C O hm)
noncomputable def s_Reader_isOther_29 (s0 : Int32) (h : Hp) : Option Int32 :=
  bz s0 <| some (s0)
noncomputable def s_Reader_isOther_28 (h : Hp) : Option Int32 :=
  s_Reader_isOther_29 ((0 : Int32)) h
noncomputable def s_Reader_isOther (v1 : Int32) (h : Hp) : Option Int32 :=
  if (hI h 47 6) = ((3 : Int32)) then
    ib (hI h 47 7) 400 <| if (hI h 46 (ix (hI h 47 7))) = v1 then
      s_Reader_isOther_29 ((1 : Int32)) h
    else
      s_Reader_isOther_28 h
  else
    s_Reader_isOther_28 h
def O_Reader_isOther (G : jG) (X : jX) (h : Hp) (out : Int32) : Prop := jO G X (some .boolean) (some (.int out)) h
theorem w_Reader_isOther_29 {G : jG} {X : jX} (C : jC G X cX3_isOther 2 RX3 1 70) {s0 : Int32} {h : Hp} {out : Int32} (O : (O_Reader_isOther G X h) out) (hm : s_Reader_isOther_29 s0 h = some out) : J G X 29 [] [.int s0] h := by
  unfold s_Reader_isOther_29 at hm
  obtain ⟨cz, hm⟩ := bz_inv hm
  obtain rfl := Option.some.inj hm
  exact j_zret C O cz dX3_isOther_29
theorem w_Reader_isOther_28 {G : jG} {X : jX} (C : jC G X cX3_isOther 2 RX3 1 70) {h : Hp} {out : Int32} (O : (O_Reader_isOther G X h) out) (hm : s_Reader_isOther_28 h = some out) : J G X 28 [] [] h := by
  unfold s_Reader_isOther_28 at hm
  refine j_iconst C 0 dX3_isOther_28 (by decide) ?_
  refine j_sub (L' := []) [] rfl ?_
  exact w_Reader_isOther_29 C O hm
theorem w_Reader_isOther {G : jG} {X : jX} (C : jC G X cX3_isOther 2 RX3 1 70) {v1 : Int32} {h : Hp} {out : Int32} (O : (O_Reader_isOther G X h) out) (hm : s_Reader_isOther v1 h = some out) : J G X 0 [(0, .ref (G.1 + 47)), (1, .int v1)] [] h := by
  unfold s_Reader_isOther at hm
  refine j_aload_n C 0 dX3_isOther_0 rfl rfl ?_
  refine j_gI C f_X3_30 n_47 dX3_isOther_1 ?_
  refine j_iconst C 3 dX3_isOther_4 (by decide) ?_
  refine j_if_icmpne C 28 dX3_isOther_5 (by decide) hm (fun hm => ?_) (fun hm => ?_)
  · refine j_aload_n C 0 dX3_isOther_8 rfl rfl ?_
    refine j_gS C f_X3_42 n_47 q_47_0 dX3_isOther_9 ?_
    refine j_gS C f_X3_129 n_45 q_45_0 dX3_isOther_12 ?_
    refine j_aload_n C 0 dX3_isOther_15 rfl rfl ?_
    refine j_gI C f_X3_33 n_47 dX3_isOther_16 ?_
    refine j_iald C n_46 hm dX3_isOther_19 (fun hm => ?_)
    refine j_iload_n C 1 dX3_isOther_20 rfl rfl ?_
    refine j_if_icmpne C 28 dX3_isOther_21 (by decide) hm (fun hm => ?_) (fun hm => ?_)
    · refine j_iconst C 1 dX3_isOther_24 (by decide) ?_
      refine j_goto C 29 dX3_isOther_25 (by decide) ?_
      refine j_sub (L' := []) [] rfl ?_
      exact w_Reader_isOther_29 C O hm
    · refine j_sub (L' := []) [] rfl ?_
      exact w_Reader_isOther_28 C O hm
  · refine j_sub (L' := []) [] rfl ?_
    exact w_Reader_isOther_28 C O hm
theorem c_Reader_isOther {G : jG} {l : Launch} {v1 : Int32} {h : Hp} {out : Int32} (hm : s_Reader_isOther v1 h = some out) : mt G l yX3_isOther cX3_isOther 2 (some .boolean) 1 70 [.ref (G.1 + 47), .int v1] h (some (.int out)) h :=
  mt_of (by decide) (Nat.le_of_ble_eq_true rfl) _ rfl (fun X I C O => w_Reader_isOther C O hm)
noncomputable def s_Reader_isWord_24 (h : Hp) : Option Int32 :=
  some ((0 : Int32))
noncomputable def s_Reader_isWord_28 (v1 : Nat) (v2 : Int32) (h : Hp) : Option ((Nat × Int32) ⊕ Int32) :=
  kc v1 <| if (nI (lenKS.getD v1 0)) ≤ v2 then
    some (.inr ((1 : Int32)))
  else
    ib ((hI h 47 7) + v2) 400 <| kc v1 <| ib v2 (lenKS.getD v1 0) <| if (hI h 46 (ix ((hI h 47 7) + v2))) = (sc_c v1 (ix v2)) then
      some (.inl (v1, (v2 + (1 : Int32))))
    else
      some (.inr ((0 : Int32)))
noncomputable def s_Reader_isWord (v1 : Nat) (h : Hp) : Option Int32 :=
  if (hI h 47 6) = ((1 : Int32)) then
    kc v1 <| if ((hI h 47 8) - (hI h 47 7)) = (nI (lenKS.getD v1 0)) then
      lp (fun q => s_Reader_isWord_28 q.1 q.2 h) (v1, ((0 : Int32)))
    else
      s_Reader_isWord_24 h
  else
    s_Reader_isWord_24 h
def O_Reader_isWord (G : jG) (X : jX) (h : Hp) (out : Int32) : Prop := jO G X (some .boolean) (some (.int out)) h
def P_Reader_isWord_28 (G : jG) (X : jX) (h : Hp) (q : Nat × Int32) : Prop := J G X 28 [(0, .ref (G.1 + 47)), (1, .ref (skg G q.1)), (2, .int q.2)] [] h
def O_Reader_isWord_28 (G : jG) (X : jX) (h : Hp) (t : ((Nat × Int32) ⊕ Int32)) : Prop := Sum.elim (P_Reader_isWord_28 G X h) (O_Reader_isWord G X h) t
theorem w_Reader_isWord_24 {G : jG} {X : jX} (C : jC G X cX3_isWord 3 RX3 6 240) {h : Hp} {out : Int32} (O : (O_Reader_isWord G X h) out) (hm : s_Reader_isWord_24 h = some out) : J G X 24 [] [] h := by
  unfold s_Reader_isWord_24 at hm
  refine j_iconst C 0 dX3_isWord_24 (by decide) ?_
  obtain rfl := Option.some.inj hm
  exact j_zret C O (by decide) dX3_isWord_25
theorem w_Reader_isWord_28 {G : jG} {X : jX} (C : jC G X cX3_isWord 3 RX3 6 240) {v1 : Nat} {v2 : Int32} {h : Hp} {out : ((Nat × Int32) ⊕ Int32)} (O : (O_Reader_isWord_28 G X h) out) (hm : s_Reader_isWord_28 v1 v2 h = some out) : J G X 28 [(0, .ref (G.1 + 47)), (1, .ref (skg G v1)), (2, .int v2)] [] h := by
  unfold s_Reader_isWord_28 at hm
  refine j_iload_n C 2 dX3_isWord_28 rfl rfl ?_
  refine j_aload_n C 1 dX3_isWord_29 rfl rfl ?_
  refine j_strlen C [.int v2] hm (Nat.le_of_ble_eq_true rfl) (Nat.le_of_ble_eq_true rfl) (Nat.le_of_ble_eq_true rfl) dX3_isWord_30 (fun hm => ?_)
  refine j_if_icmpge C 66 dX3_isWord_33 (by decide) hm (fun hm => ?_) (fun hm => ?_)
  · refine j_iconst C 1 dX3_isWord_66 (by decide) ?_
    obtain rfl := Option.some.inj hm
    exact j_zret C O (by decide) dX3_isWord_67
  · refine j_aload_n C 0 dX3_isWord_36 rfl rfl ?_
    refine j_gS C f_X3_42 n_47 q_47_0 dX3_isWord_37 ?_
    refine j_gS C f_X3_129 n_45 q_45_0 dX3_isWord_40 ?_
    refine j_aload_n C 0 dX3_isWord_43 rfl rfl ?_
    refine j_gI C f_X3_33 n_47 dX3_isWord_44 ?_
    refine j_iload_n C 2 dX3_isWord_47 rfl rfl ?_
    refine j_iadd C dX3_isWord_48 ?_
    refine j_iald C n_46 hm dX3_isWord_49 (fun hm => ?_)
    refine j_aload_n C 1 dX3_isWord_50 rfl rfl ?_
    refine j_iload_n C 2 dX3_isWord_51 rfl rfl ?_
    refine j_strat C [.int (hI h 46 (ix ((hI h 47 7) + v2)))] hm (Nat.le_of_ble_eq_true rfl) (Nat.le_of_ble_eq_true rfl) (Nat.le_of_ble_eq_true rfl) dX3_isWord_52 (fun hm => ?_)
    refine j_if_icmpeq C 60 dX3_isWord_55 (by decide) hm (fun hm => ?_) (fun hm => ?_)
    · refine j_iinc C 2 [(2, .int (v2 + (1 : Int32))), (0, .ref (G.1 + 47)), (1, .ref (skg G v1))] dX3_isWord_60 rfl (add_lit (by decide)) (by decide) rfl ?_
      refine j_goto C 28 dX3_isWord_63 (by decide) ?_
      obtain rfl := Option.some.inj hm
      refine j_sub (L' := [(0, .ref (G.1 + 47)), (1, .ref (skg G v1)), (2, .int (v2 + (1 : Int32)))]) [1, 2, 0] rfl ?_
      exact O
    · refine j_iconst C 0 dX3_isWord_58 (by decide) ?_
      obtain rfl := Option.some.inj hm
      exact j_zret C O (by decide) dX3_isWord_59
theorem k_Reader_isWord_28 {G : jG} {X : jX} (C : jC G X cX3_isWord 3 RX3 6 240) {v1 : Nat} {v2 : Int32} {h : Hp} {out : Int32} (O : (O_Reader_isWord G X h) out) (hm : lp (fun q => s_Reader_isWord_28 q.1 q.2 h) (v1, v2) = some out) : J G X 28 [(0, .ref (G.1 + 47)), (1, .ref (skg G v1)), (2, .int v2)] [] h :=
  lp_ok (P := P_Reader_isWord_28 G X h) (O := (O_Reader_isWord G X h)) (fun q r hm O => w_Reader_isWord_28 C O hm) hm O
theorem w_Reader_isWord {G : jG} {X : jX} (C : jC G X cX3_isWord 3 RX3 6 240) {v1 : Nat} {h : Hp} {out : Int32} (O : (O_Reader_isWord G X h) out) (hm : s_Reader_isWord v1 h = some out) : J G X 0 [(0, .ref (G.1 + 47)), (1, .ref (skg G v1))] [] h := by
  unfold s_Reader_isWord at hm
  refine j_aload_n C 0 dX3_isWord_0 rfl rfl ?_
  refine j_gI C f_X3_30 n_47 dX3_isWord_1 ?_
  refine j_iconst C 1 dX3_isWord_4 (by decide) ?_
  refine j_if_icmpne C 24 dX3_isWord_5 (by decide) hm (fun hm => ?_) (fun hm => ?_)
  · refine j_aload_n C 0 dX3_isWord_8 rfl rfl ?_
    refine j_gI C f_X3_36 n_47 dX3_isWord_9 ?_
    refine j_aload_n C 0 dX3_isWord_12 rfl rfl ?_
    refine j_gI C f_X3_33 n_47 dX3_isWord_13 ?_
    refine j_isub C dX3_isWord_16 ?_
    refine j_aload_n C 1 dX3_isWord_17 rfl rfl ?_
    refine j_strlen C [.int ((hI h 47 8) - (hI h 47 7))] hm (Nat.le_of_ble_eq_true rfl) (Nat.le_of_ble_eq_true rfl) (Nat.le_of_ble_eq_true rfl) dX3_isWord_18 (fun hm => ?_)
    refine j_if_icmpeq C 26 dX3_isWord_21 (by decide) hm (fun hm => ?_) (fun hm => ?_)
    · refine j_iconst C 0 dX3_isWord_26 (by decide) ?_
      refine j_istore_n C [(2, .int ((0 : Int32))), (0, .ref (G.1 + 47)), (1, .ref (skg G v1))] dX3_isWord_27 rfl (by decide) rfl ?_
      refine j_sub (L' := [(0, .ref (G.1 + 47)), (1, .ref (skg G v1)), (2, .int ((0 : Int32)))]) [1, 2, 0] rfl ?_
      exact k_Reader_isWord_28 C O hm
    · refine j_sub (L' := []) [] rfl ?_
      exact w_Reader_isWord_24 C O hm
  · refine j_sub (L' := []) [] rfl ?_
    exact w_Reader_isWord_24 C O hm
theorem c_Reader_isWord {G : jG} {l : Launch} {v1 : Nat} {h : Hp} {out : Int32} (hm : s_Reader_isWord v1 h = some out) : mt G l yX3_isWord cX3_isWord 3 (some .boolean) 6 240 [.ref (G.1 + 47), .ref (skg G v1)] h (some (.int out)) h :=
  mt_of (by decide) (Nat.le_of_ble_eq_true rfl) _ rfl (fun X I C O => w_Reader_isWord C O hm)
noncomputable def s_Reader_numberHere_7 (v1 : Int32) (v2 : Int32) (h : Hp) : Option ((Int32 × Int32) ⊕ Int32) :=
  if (hI h 47 8) ≤ v2 then
    some (.inr (v1))
  else
    ib v2 400 <| lt (z_min (((v1 * ((10 : Int32))) + (hI h 46 (ix v2))) - ((48 : Int32))) ((1001 : Int32))) fun x1 => some (.inl (x1, (v2 + (1 : Int32))))
noncomputable def s_Reader_numberHere (h : Hp) : Option Int32 :=
  lp (fun q => s_Reader_numberHere_7 q.1 q.2 h) (((0 : Int32)), (hI h 47 7))
def O_Reader_numberHere (G : jG) (X : jX) (h : Hp) (out : Int32) : Prop := jO G X (some .int) (some (.int out)) h
def P_Reader_numberHere_7 (G : jG) (X : jX) (h : Hp) (q : Int32 × Int32) : Prop := J G X 7 [(0, .ref (G.1 + 47)), (1, .int q.1), (2, .int q.2)] [] h
def O_Reader_numberHere_7 (G : jG) (X : jX) (h : Hp) (t : ((Int32 × Int32) ⊕ Int32)) : Prop := Sum.elim (P_Reader_numberHere_7 G X h) (O_Reader_numberHere G X h) t
theorem w_Reader_numberHere_7 {G : jG} {X : jX} (C : jC G X cX3_numberHere 3 RX3 1 70) {v1 : Int32} {v2 : Int32} {h : Hp} {out : ((Int32 × Int32) ⊕ Int32)} (O : (O_Reader_numberHere_7 G X h) out) (hm : s_Reader_numberHere_7 v1 v2 h = some out) : J G X 7 [(0, .ref (G.1 + 47)), (1, .int v1), (2, .int v2)] [] h := by
  unfold s_Reader_numberHere_7 at hm
  refine j_iload_n C 2 dX3_numberHere_7 rfl rfl ?_
  refine j_aload_n C 0 dX3_numberHere_8 rfl rfl ?_
  refine j_gI C f_X3_36 n_47 dX3_numberHere_9 ?_
  refine j_if_icmpge C 45 dX3_numberHere_12 (by decide) hm (fun hm => ?_) (fun hm => ?_)
  · refine j_iload_n C 1 dX3_numberHere_45 rfl rfl ?_
    obtain rfl := Option.some.inj hm
    exact j_iret C O dX3_numberHere_46
  · refine j_iload_n C 1 dX3_numberHere_15 rfl rfl ?_
    refine j_bipush C 10 dX3_numberHere_16 (by decide) ?_
    refine j_imul C dX3_numberHere_18 ?_
    refine j_aload_n C 0 dX3_numberHere_19 rfl rfl ?_
    refine j_gS C f_X3_42 n_47 q_47_0 dX3_numberHere_20 ?_
    refine j_gS C f_X3_129 n_45 q_45_0 dX3_numberHere_23 ?_
    refine j_iload_n C 2 dX3_numberHere_26 rfl rfl ?_
    refine j_iald C n_46 hm dX3_numberHere_27 (fun hm => ?_)
    refine j_iadd C dX3_numberHere_28 ?_
    refine j_bipush C 48 dX3_numberHere_29 (by decide) ?_
    refine j_isub C dX3_numberHere_31 ?_
    refine j_sipush C 1001 dX3_numberHere_32 (by decide) ?_
    refine j_mmin C wd_788 wd_789 wd_126 wd_790 (Nat.le_of_ble_eq_true rfl) (Nat.le_of_ble_eq_true rfl) dX3_numberHere_35 ?_
    refine j_nmI hm (fun x1 hm => ?_)
    refine j_istore_n C [(1, .int x1), (0, .ref (G.1 + 47)), (2, .int v2)] dX3_numberHere_38 rfl (by decide) rfl ?_
    refine j_iinc C 2 [(2, .int (v2 + (1 : Int32))), (1, .int x1), (0, .ref (G.1 + 47))] dX3_numberHere_39 rfl (add_lit (by decide)) (by decide) rfl ?_
    refine j_goto C 7 dX3_numberHere_42 (by decide) ?_
    obtain rfl := Option.some.inj hm
    refine j_sub (L' := [(0, .ref (G.1 + 47)), (1, .int x1), (2, .int (v2 + (1 : Int32)))]) [2, 1, 0] rfl ?_
    exact O
theorem k_Reader_numberHere_7 {G : jG} {X : jX} (C : jC G X cX3_numberHere 3 RX3 1 70) {v1 : Int32} {v2 : Int32} {h : Hp} {out : Int32} (O : (O_Reader_numberHere G X h) out) (hm : lp (fun q => s_Reader_numberHere_7 q.1 q.2 h) (v1, v2) = some out) : J G X 7 [(0, .ref (G.1 + 47)), (1, .int v1), (2, .int v2)] [] h :=
  lp_ok (P := P_Reader_numberHere_7 G X h) (O := (O_Reader_numberHere G X h)) (fun q r hm O => w_Reader_numberHere_7 C O hm) hm O
theorem w_Reader_numberHere {G : jG} {X : jX} (C : jC G X cX3_numberHere 3 RX3 1 70) {h : Hp} {out : Int32} (O : (O_Reader_numberHere G X h) out) (hm : s_Reader_numberHere h = some out) : J G X 0 [(0, .ref (G.1 + 47))] [] h := by
  unfold s_Reader_numberHere at hm
  refine j_iconst C 0 dX3_numberHere_0 (by decide) ?_
  refine j_istore_n C [(1, .int ((0 : Int32))), (0, .ref (G.1 + 47))] dX3_numberHere_1 rfl (by decide) rfl ?_
  refine j_aload_n C 1 dX3_numberHere_2 rfl rfl ?_
  refine j_gI C f_X3_33 n_47 dX3_numberHere_3 ?_
  refine j_istore_n C [(2, .int (hI h 47 7)), (1, .int ((0 : Int32))), (0, .ref (G.1 + 47))] dX3_numberHere_6 rfl (by decide) rfl ?_
  refine j_sub (L' := [(0, .ref (G.1 + 47)), (1, .int ((0 : Int32))), (2, .int (hI h 47 7))]) [2, 1, 0] rfl ?_
  exact k_Reader_numberHere_7 C O hm
theorem c_Reader_numberHere {G : jG} {l : Launch} {h : Hp} {out : Int32} (hm : s_Reader_numberHere h = some out) : mt G l yX3_numberHere cX3_numberHere 3 (some .int) 1 70 [.ref (G.1 + 47)] h (some (.int out)) h :=
  mt_of (by decide) (Nat.le_of_ble_eq_true rfl) _ rfl (fun X I C O => w_Reader_numberHere C O hm)
noncomputable def s_Reader_put_36 (h : Hp) : Option Hp :=
  some h
noncomputable def s_Reader_put (v1 : Int32) (v2 : Int32) (h : Hp) : Option Hp :=
  if ((400 : Int32)) ≤ (hI h 47 3) then
    s_Reader_put_36 h
  else
    ib (hI h 47 3) 400 <| lt (sI h 48 (ix (hI h 47 3)) (v1 ||| (z_shl v2 ((4 : Int32))))) fun h1 => s_Reader_put_36 (sI h1 47 3 ((hI h1 47 3) + ((1 : Int32))))
def O_Reader_put (G : jG) (X : jX) (out : Hp) : Prop := jO G X (none) none out
theorem w_Reader_put_36 {G : jG} {X : jX} (C : jC G X cX3_put 3 RX3 1 70) {h : Hp} {out : Hp} (O : (O_Reader_put G X) out) (hm : s_Reader_put_36 h = some out) : J G X 36 [] [] h := by
  unfold s_Reader_put_36 at hm
  obtain rfl := Option.some.inj hm
  exact j_vret C O dX3_put_36
theorem w_Reader_put {G : jG} {X : jX} (C : jC G X cX3_put 3 RX3 1 70) {v1 : Int32} {v2 : Int32} {h : Hp} {out : Hp} (O : (O_Reader_put G X) out) (hm : s_Reader_put v1 v2 h = some out) : J G X 0 [(0, .ref (G.1 + 47)), (1, .int v1), (2, .int v2)] [] h := by
  unfold s_Reader_put at hm
  refine j_aload_n C 0 dX3_put_0 rfl rfl ?_
  refine j_gI C f_X3_20 n_47 dX3_put_1 ?_
  refine j_aload_n C 0 dX3_put_4 rfl rfl ?_
  refine j_gS C f_X3_9 n_47 q_47_1 dX3_put_5 ?_
  refine j_alen C 400 n_48 (by decide) dX3_put_8 ?_
  refine j_if_icmpge C 36 dX3_put_9 (by decide) hm (fun hm => ?_) (fun hm => ?_)
  · refine j_sub (L' := []) [] rfl ?_
    exact w_Reader_put_36 C O hm
  · refine j_aload_n C 0 dX3_put_12 rfl rfl ?_
    refine j_gS C f_X3_9 n_47 q_47_1 dX3_put_13 ?_
    refine j_aload_n C 0 dX3_put_16 rfl rfl ?_
    refine j_gI C f_X3_20 n_47 dX3_put_17 ?_
    refine j_iload_n C 1 dX3_put_20 rfl rfl ?_
    refine j_iload_n C 2 dX3_put_21 rfl rfl ?_
    refine j_iconst C 4 dX3_put_22 (by decide) ?_
    refine j_ishl C dX3_put_23 ?_
    refine j_ior C dX3_put_24 ?_
    refine j_iast C n_48 hm dX3_put_25 (fun hm => ?_)
    refine j_aload_n C 0 dX3_put_26 rfl rfl ?_
    refine j_dup C dX3_put_27 rfl ?_
    refine j_nmH hm (fun h1 hm => ?_)
    refine j_gI C f_X3_20 n_47 dX3_put_28 ?_
    refine j_iconst C 1 dX3_put_31 (by decide) ?_
    refine j_iadd C dX3_put_32 ?_
    refine j_pI C f_X3_20 n_47 dX3_put_33 ?_
    refine j_sub (L' := []) [] rfl ?_
    exact w_Reader_put_36 C O hm
theorem c_Reader_put {G : jG} {l : Launch} {v1 : Int32} {v2 : Int32} {h : Hp} {out : Hp} (hm : s_Reader_put v1 v2 h = some out) : mt G l yX3_put cX3_put 3 (none) 1 70 [.ref (G.1 + 47), .int v1, .int v2] h none out :=
  mt_of (by decide) (Nat.le_of_ble_eq_true rfl) _ rfl (fun X I C O => w_Reader_put C O hm)
noncomputable def s_Reader_takes (v1 : Int32) (h : Hp) : Option (Int32 × Hp) :=
  (s_Reader_isOther v1 h).bind fun u1 => if u1 = 0 then
    (s_Reader_fail h).bind fun u3 => bz u3.1 <| some (u3.1, u3.2)
  else
    (s_Reader_advance h).bind fun u2 => some ((1 : Int32), u2)
def O_Reader_takes (G : jG) (X : jX) (out : (Int32 × Hp)) : Prop := jO G X (some .boolean) (some (.int out.1)) out.2
theorem w_Reader_takes {G : jG} {X : jX} (C : jC G X cX3_takes 2 RX3 3 113) {v1 : Int32} {h : Hp} {out : (Int32 × Hp)} (O : (O_Reader_takes G X) out) (hm : s_Reader_takes v1 h = some out) : J G X 0 [(0, .ref (G.1 + 47)), (1, .int v1)] [] h := by
  unfold s_Reader_takes at hm
  refine j_aload_n C 0 dX3_takes_0 rfl rfl ?_
  refine j_iload_n C 1 dX3_takes_1 rfl rfl ?_
  refine j_cV C l_X3_62 [.int v1] [] (fun u1 => some (.int u1)) (fun _ => h) (fun u1 => [.int u1]) n_47 hm (fun l u hu => c_Reader_isOther hu) rfl (Nat.le_of_ble_eq_true rfl) rfl (Nat.le_of_ble_eq_true rfl) (Nat.le_of_ble_eq_true rfl) (fun _ => rfl) dX3_takes_2 (fun u1 hm => ?_)
  refine j_ifne C 13 dX3_takes_5 (by decide) hm (fun hm => ?_) (fun hm => ?_)
  · refine j_aload_n C 0 dX3_takes_8 rfl rfl ?_
    refine j_cV C l_X3_66 [] [] (fun u3 => some (.int u3.1)) (fun u3 => u3.2) (fun u3 => [.int u3.1]) n_47 hm (fun l u hu => c_Reader_fail hu) rfl (Nat.le_of_ble_eq_true rfl) rfl (Nat.le_of_ble_eq_true rfl) (Nat.le_of_ble_eq_true rfl) (fun _ => rfl) dX3_takes_9 (fun u3 hm => ?_)
    obtain ⟨cz, hm⟩ := bz_inv hm
    obtain rfl := Option.some.inj hm
    exact j_zret C O cz dX3_takes_12
  · refine j_aload_n C 0 dX3_takes_13 rfl rfl ?_
    refine j_cV C l_X3_46 [] [] (fun _ => none) (fun u2 => u2) (fun u2 => []) n_47 hm (fun l u hu => c_Reader_advance hu) rfl (Nat.le_of_ble_eq_true rfl) rfl (Nat.le_of_ble_eq_true rfl) (Nat.le_of_ble_eq_true rfl) (fun _ => rfl) dX3_takes_14 (fun u2 hm => ?_)
    refine j_iconst C 1 dX3_takes_17 (by decide) ?_
    obtain rfl := Option.some.inj hm
    exact j_zret C O (by decide) dX3_takes_18
theorem c_Reader_takes {G : jG} {l : Launch} {v1 : Int32} {h : Hp} {out : (Int32 × Hp)} (hm : s_Reader_takes v1 h = some out) : mt G l yX3_takes cX3_takes 2 (some .boolean) 3 113 [.ref (G.1 + 47), .int v1] h (some (.int out.1)) out.2 :=
  mt_of (by decide) (Nat.le_of_ble_eq_true rfl) _ rfl (fun X I C O => w_Reader_takes C O hm)
noncomputable def s_Reader_wordHere_93 (s0 : Int32) (h : Hp) : Option Int32 :=
  some (s0)
noncomputable def s_Reader_wordHere (h : Hp) : Option Int32 :=
  (s_Reader_isWord 2 h).bind fun u1 => if u1 = 0 then
    (s_Reader_isWord 3 h).bind fun u2 => if u2 = 0 then
      (s_Reader_isWord 4 h).bind fun u3 => if u3 = 0 then
        (s_Reader_isWord 5 h).bind fun u4 => if u4 = 0 then
          (s_Reader_isWord 6 h).bind fun u5 => if u5 = 0 then
            (s_Reader_isWord 7 h).bind fun u6 => if u6 = 0 then
              (s_Reader_isWord 8 h).bind fun u7 => if u7 = 0 then
                s_Reader_wordHere_93 ((-1 : Int32)) h
              else
                s_Reader_wordHere_93 ((6 : Int32)) h
            else
              s_Reader_wordHere_93 ((5 : Int32)) h
          else
            s_Reader_wordHere_93 ((4 : Int32)) h
        else
          s_Reader_wordHere_93 ((3 : Int32)) h
      else
        s_Reader_wordHere_93 ((2 : Int32)) h
    else
      s_Reader_wordHere_93 ((1 : Int32)) h
  else
    s_Reader_wordHere_93 ((0 : Int32)) h
def O_Reader_wordHere (G : jG) (X : jX) (h : Hp) (out : Int32) : Prop := jO G X (some .int) (some (.int out)) h
theorem w_Reader_wordHere_93 {G : jG} {X : jX} (C : jC G X cX3_wordHere 1 RX3 7 262) {s0 : Int32} {h : Hp} {out : Int32} (O : (O_Reader_wordHere G X h) out) (hm : s_Reader_wordHere_93 s0 h = some out) : J G X 93 [] [.int s0] h := by
  unfold s_Reader_wordHere_93 at hm
  obtain rfl := Option.some.inj hm
  exact j_iret C O dX3_wordHere_93
theorem w_Reader_wordHere {G : jG} {X : jX} (C : jC G X cX3_wordHere 1 RX3 7 262) {h : Hp} {out : Int32} (O : (O_Reader_wordHere G X h) out) (hm : s_Reader_wordHere h = some out) : J G X 0 [(0, .ref (G.1 + 47))] [] h := by
  unfold s_Reader_wordHere at hm
  refine j_aload_n C 0 dX3_wordHere_0 rfl rfl ?_
  refine j_ldcS C (i := 2) rfl dX3_wordHere_1 ?_
  refine j_cV C l_X3_71 [.ref (skg G 2)] [] (fun u1 => some (.int u1)) (fun _ => h) (fun u1 => [.int u1]) n_47 hm (fun l u hu => c_Reader_isWord hu) rfl (Nat.le_of_ble_eq_true rfl) rfl (Nat.le_of_ble_eq_true rfl) (Nat.le_of_ble_eq_true rfl) (fun _ => rfl) dX3_wordHere_3 (fun u1 hm => ?_)
  refine j_ifeq C 13 dX3_wordHere_6 (by decide) hm (fun hm => ?_) (fun hm => ?_)
  · refine j_aload_n C 0 dX3_wordHere_13 rfl rfl ?_
    refine j_ldcS C (i := 3) rfl dX3_wordHere_14 ?_
    refine j_cV C l_X3_71 [.ref (skg G 3)] [] (fun u2 => some (.int u2)) (fun _ => h) (fun u2 => [.int u2]) n_47 hm (fun l u hu => c_Reader_isWord hu) rfl (Nat.le_of_ble_eq_true rfl) rfl (Nat.le_of_ble_eq_true rfl) (Nat.le_of_ble_eq_true rfl) (fun _ => rfl) dX3_wordHere_16 (fun u2 hm => ?_)
    refine j_ifeq C 26 dX3_wordHere_19 (by decide) hm (fun hm => ?_) (fun hm => ?_)
    · refine j_aload_n C 0 dX3_wordHere_26 rfl rfl ?_
      refine j_ldcS C (i := 4) rfl dX3_wordHere_27 ?_
      refine j_cV C l_X3_71 [.ref (skg G 4)] [] (fun u3 => some (.int u3)) (fun _ => h) (fun u3 => [.int u3]) n_47 hm (fun l u hu => c_Reader_isWord hu) rfl (Nat.le_of_ble_eq_true rfl) rfl (Nat.le_of_ble_eq_true rfl) (Nat.le_of_ble_eq_true rfl) (fun _ => rfl) dX3_wordHere_29 (fun u3 hm => ?_)
      refine j_ifeq C 39 dX3_wordHere_32 (by decide) hm (fun hm => ?_) (fun hm => ?_)
      · refine j_aload_n C 0 dX3_wordHere_39 rfl rfl ?_
        refine j_ldcS C (i := 5) rfl dX3_wordHere_40 ?_
        refine j_cV C l_X3_71 [.ref (skg G 5)] [] (fun u4 => some (.int u4)) (fun _ => h) (fun u4 => [.int u4]) n_47 hm (fun l u hu => c_Reader_isWord hu) rfl (Nat.le_of_ble_eq_true rfl) rfl (Nat.le_of_ble_eq_true rfl) (Nat.le_of_ble_eq_true rfl) (fun _ => rfl) dX3_wordHere_42 (fun u4 hm => ?_)
        refine j_ifeq C 52 dX3_wordHere_45 (by decide) hm (fun hm => ?_) (fun hm => ?_)
        · refine j_aload_n C 0 dX3_wordHere_52 rfl rfl ?_
          refine j_ldcS C (i := 6) rfl dX3_wordHere_53 ?_
          refine j_cV C l_X3_71 [.ref (skg G 6)] [] (fun u5 => some (.int u5)) (fun _ => h) (fun u5 => [.int u5]) n_47 hm (fun l u hu => c_Reader_isWord hu) rfl (Nat.le_of_ble_eq_true rfl) rfl (Nat.le_of_ble_eq_true rfl) (Nat.le_of_ble_eq_true rfl) (fun _ => rfl) dX3_wordHere_55 (fun u5 hm => ?_)
          refine j_ifeq C 65 dX3_wordHere_58 (by decide) hm (fun hm => ?_) (fun hm => ?_)
          · refine j_aload_n C 0 dX3_wordHere_65 rfl rfl ?_
            refine j_ldcS C (i := 7) rfl dX3_wordHere_66 ?_
            refine j_cV C l_X3_71 [.ref (skg G 7)] [] (fun u6 => some (.int u6)) (fun _ => h) (fun u6 => [.int u6]) n_47 hm (fun l u hu => c_Reader_isWord hu) rfl (Nat.le_of_ble_eq_true rfl) rfl (Nat.le_of_ble_eq_true rfl) (Nat.le_of_ble_eq_true rfl) (fun _ => rfl) dX3_wordHere_68 (fun u6 hm => ?_)
            refine j_ifeq C 78 dX3_wordHere_71 (by decide) hm (fun hm => ?_) (fun hm => ?_)
            · refine j_aload_n C 0 dX3_wordHere_78 rfl rfl ?_
              refine j_ldcS C (i := 8) rfl dX3_wordHere_79 ?_
              refine j_cV C l_X3_71 [.ref (skg G 8)] [] (fun u7 => some (.int u7)) (fun _ => h) (fun u7 => [.int u7]) n_47 hm (fun l u hu => c_Reader_isWord hu) rfl (Nat.le_of_ble_eq_true rfl) rfl (Nat.le_of_ble_eq_true rfl) (Nat.le_of_ble_eq_true rfl) (fun _ => rfl) dX3_wordHere_81 (fun u7 hm => ?_)
              refine j_ifeq C 92 dX3_wordHere_84 (by decide) hm (fun hm => ?_) (fun hm => ?_)
              · refine j_iconst C (-1 : Int32) dX3_wordHere_92 (by decide) ?_
                refine j_sub (L' := []) [] rfl ?_
                exact w_Reader_wordHere_93 C O hm
              · refine j_bipush C 6 dX3_wordHere_87 (by decide) ?_
                refine j_goto C 93 dX3_wordHere_89 (by decide) ?_
                refine j_sub (L' := []) [] rfl ?_
                exact w_Reader_wordHere_93 C O hm
            · refine j_iconst C 5 dX3_wordHere_74 (by decide) ?_
              refine j_goto C 93 dX3_wordHere_75 (by decide) ?_
              refine j_sub (L' := []) [] rfl ?_
              exact w_Reader_wordHere_93 C O hm
          · refine j_iconst C 4 dX3_wordHere_61 (by decide) ?_
            refine j_goto C 93 dX3_wordHere_62 (by decide) ?_
            refine j_sub (L' := []) [] rfl ?_
            exact w_Reader_wordHere_93 C O hm
        · refine j_iconst C 3 dX3_wordHere_48 (by decide) ?_
          refine j_goto C 93 dX3_wordHere_49 (by decide) ?_
          refine j_sub (L' := []) [] rfl ?_
          exact w_Reader_wordHere_93 C O hm
      · refine j_iconst C 2 dX3_wordHere_35 (by decide) ?_
        refine j_goto C 93 dX3_wordHere_36 (by decide) ?_
        refine j_sub (L' := []) [] rfl ?_
        exact w_Reader_wordHere_93 C O hm
    · refine j_iconst C 1 dX3_wordHere_22 (by decide) ?_
      refine j_goto C 93 dX3_wordHere_23 (by decide) ?_
      refine j_sub (L' := []) [] rfl ?_
      exact w_Reader_wordHere_93 C O hm
  · refine j_iconst C 0 dX3_wordHere_9 (by decide) ?_
    refine j_goto C 93 dX3_wordHere_10 (by decide) ?_
    refine j_sub (L' := []) [] rfl ?_
    exact w_Reader_wordHere_93 C O hm
theorem c_Reader_wordHere {G : jG} {l : Launch} {h : Hp} {out : Int32} (hm : s_Reader_wordHere h = some out) : mt G l yX3_wordHere cX3_wordHere 1 (some .int) 7 262 [.ref (G.1 + 47)] h (some (.int out)) h :=
  mt_of (by decide) (Nat.le_of_ble_eq_true rfl) _ rfl (fun X I C O => w_Reader_wordHere C O hm)
