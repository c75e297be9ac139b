noncomputable def s_Arr_copyOf (v0 : Nat) (v1 : Int32) (h : Hp) : Option (Nat × Hp) :=
  ak h v0 0 <| if v1 = (nI (ln h v0)) then
    ak h v0 0 <| some (nid h, clI h v0)
  else
    nl v1 <| ak (al h 0 (ix v1)) v0 0 <| cy (al h 0 (ix v1)) v0 ((0 : Int32)) (nid h) ((0 : Int32)) (z_min (nI (ln (al h 0 (ix v1)) v0)) v1) <| some (nid h, cpI (al h 0 (ix v1)) v0 ((0 : Int32)) (nid h) ((0 : Int32)) (z_min (nI (ln (al h 0 (ix v1)) v0)) v1))
def O_Arr_copyOf (G : jG) (X : jX) (out : (Nat × Hp)) : Prop := jO G X (some (.array .int)) (some (.ref (G.1 + out.1))) out.2
theorem w_Arr_copyOf {G : jG} {X : jX} (C : jC G X cJ7_copyOf_59c91 3 RJ7 1 70) {v0 : Nat} {v1 : Int32} {h : Hp} {out : (Nat × Hp)} (O : (O_Arr_copyOf G X) out) (hm : s_Arr_copyOf v0 v1 h = some out) : J G X 0 [(0, .ref (G.1 + v0)), (1, .int v1)] [] h := by
  unfold s_Arr_copyOf at hm
  refine j_iload_n C 1 dJ7_copyOf_59c91_0 rfl rfl ?_
  refine j_aload_n C 0 dJ7_copyOf_59c91_1 rfl rfl ?_
  obtain ⟨c1, hm⟩ := ak_inv hm
  refine j_alen C (nI (ln h v0)) c1 rfl dJ7_copyOf_59c91_2 ?_
  refine j_if_icmpne C 14 dJ7_copyOf_59c91_3 (by decide) hm (fun hm => ?_) (fun hm => ?_)
  · refine j_aload_n C 0 dJ7_copyOf_59c91_6 rfl rfl ?_
    obtain ⟨c3, hm⟩ := ak_inv hm
    refine j_clone C c3 wd_839 wd_146 wd_147 wd_148 wd_149 (by decide +kernel) (Nat.le_of_ble_eq_true rfl) (Nat.le_of_ble_eq_true rfl) dJ7_copyOf_59c91_7 ?_
    refine j_castI C nd_clI wd_840 dJ7_copyOf_59c91_10 ?_
    obtain rfl := Option.some.inj hm
    exact j_aret C O (Or.inr ⟨_, rfl⟩) (Or.inr ⟨_, rfl⟩) dJ7_copyOf_59c91_13
  · refine j_iload_n C 1 dJ7_copyOf_59c91_14 rfl rfl ?_
    refine j_newaI C hm wd_255 dJ7_copyOf_59c91_15 (fun hm => ?_)
    refine j_astore_n C [(2, .ref (G.1 + (nid h))), (0, .ref (G.1 + v0)), (1, .int v1)] dJ7_copyOf_59c91_17 rfl (by decide) rfl ?_
    refine j_aload_n C 1 dJ7_copyOf_59c91_18 rfl rfl ?_
    refine j_iconst C 0 dJ7_copyOf_59c91_19 (by decide) ?_
    refine j_aload_n C 0 dJ7_copyOf_59c91_20 rfl rfl ?_
    refine j_iconst C 0 dJ7_copyOf_59c91_21 (by decide) ?_
    refine j_aload_n C 1 dJ7_copyOf_59c91_22 rfl rfl ?_
    obtain ⟨c2, hm⟩ := ak_inv hm
    refine j_alen C (nI (ln (al h 0 (ix v1)) v0)) c2 rfl dJ7_copyOf_59c91_23 ?_
    refine j_iload_n C 2 dJ7_copyOf_59c91_24 rfl rfl ?_
    refine j_mmin C wd_841 wd_789 wd_126 wd_790 (Nat.le_of_ble_eq_true rfl) (Nat.le_of_ble_eq_true rfl) dJ7_copyOf_59c91_25 ?_
    refine j_copy C wd_842 wd_844 wd_843 wd_128 (Nat.le_of_ble_eq_true rfl) (Nat.le_of_ble_eq_true rfl) hm dJ7_copyOf_59c91_28 (fun hm => ?_)
    refine j_aload_n C 0 dJ7_copyOf_59c91_31 rfl rfl ?_
    obtain rfl := Option.some.inj hm
    exact j_aret C O (Or.inr ⟨_, rfl⟩) (Or.inr ⟨_, rfl⟩) dJ7_copyOf_59c91_32
theorem c_Arr_copyOf {G : jG} {l : Launch} {v0 : Nat} {v1 : Int32} {h : Hp} {out : (Nat × Hp)} (hm : s_Arr_copyOf v0 v1 h = some out) : mt G l yJ7_copyOf_59c91 cJ7_copyOf_59c91 3 (some (.array .int)) 1 70 [.ref (G.1 + v0), .int v1] h (some (.ref (G.1 + out.1))) out.2 :=
  mt_of (by decide) (Nat.le_of_ble_eq_true rfl) _ rfl (fun X I C O => w_Arr_copyOf C O hm)
noncomputable def s_Arr_fillI_5 (v0 : Nat) (v1 : Int32) (v2 : Int32) (v3 : Int32) (h : Hp) : Option ((Nat × Int32 × Int32 × Int32 × Hp) ⊕ Hp) :=
  if v3 ≤ v2 then
    some (.inr h)
  else
    ak h v0 0 <| ib v2 (ln h v0) <| some (.inl (v0, v1, (v2 + (1 : Int32)), v3, (sI h v0 (ix v2) v1)))
noncomputable def s_Arr_fillI (v0 : Nat) (v1 : Int32) (h : Hp) : Option Hp :=
  ak h v0 0 <| lp (fun q => s_Arr_fillI_5 q.1 q.2.1 q.2.2.1 q.2.2.2.1 q.2.2.2.2) (v0, v1, ((0 : Int32)), (nI (ln h v0)), h)
def O_Arr_fillI (G : jG) (X : jX) (out : Hp) : Prop := jO G X (none) none out
def P_Arr_fillI_5 (G : jG) (X : jX) (q : Nat × Int32 × Int32 × Int32 × Hp) : Prop := J G X 5 [(0, .ref (G.1 + q.1)), (1, .int q.2.1), (2, .int q.2.2.1), (3, .int q.2.2.2.1)] [] q.2.2.2.2
def O_Arr_fillI_5 (G : jG) (X : jX) (t : ((Nat × Int32 × Int32 × Int32 × Hp) ⊕ Hp)) : Prop := Sum.elim (P_Arr_fillI_5 G X) (O_Arr_fillI G X) t
theorem w_Arr_fillI_5 {G : jG} {X : jX} (C : jC G X cJ7_fill_53178 4 RJ7 1 70) {v0 : Nat} {v1 : Int32} {v2 : Int32} {v3 : Int32} {h : Hp} {out : ((Nat × Int32 × Int32 × Int32 × Hp) ⊕ Hp)} (O : (O_Arr_fillI_5 G X) out) (hm : s_Arr_fillI_5 v0 v1 v2 v3 h = some out) : J G X 5 [(0, .ref (G.1 + v0)), (1, .int v1), (2, .int v2), (3, .int v3)] [] h := by
  unfold s_Arr_fillI_5 at hm
  refine j_iload_n C 2 dJ7_fill_53178_5 rfl rfl ?_
  refine j_iload_n C 3 dJ7_fill_53178_6 rfl rfl ?_
  refine j_if_icmpge C 20 dJ7_fill_53178_7 (by decide) hm (fun hm => ?_) (fun hm => ?_)
  · obtain rfl := Option.some.inj hm
    exact j_vret C O dJ7_fill_53178_20
  · refine j_aload_n C 0 dJ7_fill_53178_10 rfl rfl ?_
    refine j_iload_n C 2 dJ7_fill_53178_11 rfl rfl ?_
    refine j_iload_n C 1 dJ7_fill_53178_12 rfl rfl ?_
    obtain ⟨c1, hm⟩ := ak_inv hm
    refine j_iast C c1 hm dJ7_fill_53178_13 (fun hm => ?_)
    refine j_iinc C 2 [(2, .int (v2 + (1 : Int32))), (0, .ref (G.1 + v0)), (1, .int v1), (3, .int v3)] dJ7_fill_53178_14 rfl (add_lit (by decide)) (by decide) rfl ?_
    refine j_goto C 5 dJ7_fill_53178_17 (by decide) ?_
    obtain rfl := Option.some.inj hm
    refine j_sub (L' := [(0, .ref (G.1 + v0)), (1, .int v1), (2, .int (v2 + (1 : Int32))), (3, .int v3)]) [1, 2, 0, 3] rfl ?_
    exact O
theorem k_Arr_fillI_5 {G : jG} {X : jX} (C : jC G X cJ7_fill_53178 4 RJ7 1 70) {v0 : Nat} {v1 : Int32} {v2 : Int32} {v3 : Int32} {h : Hp} {out : Hp} (O : (O_Arr_fillI G X) out) (hm : lp (fun q => s_Arr_fillI_5 q.1 q.2.1 q.2.2.1 q.2.2.2.1 q.2.2.2.2) (v0, v1, v2, v3, h) = some out) : J G X 5 [(0, .ref (G.1 + v0)), (1, .int v1), (2, .int v2), (3, .int v3)] [] h :=
  lp_ok (P := P_Arr_fillI_5 G X) (O := (O_Arr_fillI G X)) (fun q r hm O => w_Arr_fillI_5 C O hm) hm O
theorem w_Arr_fillI {G : jG} {X : jX} (C : jC G X cJ7_fill_53178 4 RJ7 1 70) {v0 : Nat} {v1 : Int32} {h : Hp} {out : Hp} (O : (O_Arr_fillI G X) out) (hm : s_Arr_fillI v0 v1 h = some out) : J G X 0 [(0, .ref (G.1 + v0)), (1, .int v1)] [] h := by
  unfold s_Arr_fillI at hm
  refine j_iconst C 0 dJ7_fill_53178_0 (by decide) ?_
  refine j_istore_n C [(2, .int ((0 : Int32))), (0, .ref (G.1 + v0)), (1, .int v1)] dJ7_fill_53178_1 rfl (by decide) rfl ?_
  refine j_aload_n C 1 dJ7_fill_53178_2 rfl rfl ?_
  obtain ⟨c1, hm⟩ := ak_inv hm
  refine j_alen C (nI (ln h v0)) c1 rfl dJ7_fill_53178_3 ?_
  refine j_istore_n C [(3, .int (nI (ln h v0))), (2, .int ((0 : Int32))), (0, .ref (G.1 + v0)), (1, .int v1)] dJ7_fill_53178_4 rfl (by decide) rfl ?_
  refine j_sub (L' := [(0, .ref (G.1 + v0)), (1, .int v1), (2, .int ((0 : Int32))), (3, .int (nI (ln h v0)))]) [2, 3, 1, 0] rfl ?_
  exact k_Arr_fillI_5 C O hm
theorem c_Arr_fillI {G : jG} {l : Launch} {v0 : Nat} {v1 : Int32} {h : Hp} {out : Hp} (hm : s_Arr_fillI v0 v1 h = some out) : mt G l yJ7_fill_53178 cJ7_fill_53178 4 (none) 1 70 [.ref (G.1 + v0), .int v1] h none out :=
  mt_of (by decide) (Nat.le_of_ble_eq_true rfl) _ rfl (fun X I C O => w_Arr_fillI C O hm)
noncomputable def s_Arr_fillL_6 (v0 : Nat) (v1 : Int64) (v3 : Int32) (v4 : Int32) (h : Hp) : Option ((Nat × Int64 × Int32 × Int32 × Hp) ⊕ Hp) :=
  if v4 ≤ v3 then
    some (.inr h)
  else
    ak h v0 1 <| ib v3 (ln h v0) <| some (.inl (v0, v1, (v3 + (1 : Int32)), v4, (sL h v0 (ix v3) v1)))
noncomputable def s_Arr_fillL (v0 : Nat) (v1 : Int64) (h : Hp) : Option Hp :=
  ak h v0 1 <| lp (fun q => s_Arr_fillL_6 q.1 q.2.1 q.2.2.1 q.2.2.2.1 q.2.2.2.2) (v0, v1, ((0 : Int32)), (nI (ln h v0)), h)
def O_Arr_fillL (G : jG) (X : jX) (out : Hp) : Prop := jO G X (none) none out
def P_Arr_fillL_6 (G : jG) (X : jX) (q : Nat × Int64 × Int32 × Int32 × Hp) : Prop := J G X 6 [(0, .ref (G.1 + q.1)), (1, .long q.2.1), (3, .int q.2.2.1), (4, .int q.2.2.2.1)] [] q.2.2.2.2
def O_Arr_fillL_6 (G : jG) (X : jX) (t : ((Nat × Int64 × Int32 × Int32 × Hp) ⊕ Hp)) : Prop := Sum.elim (P_Arr_fillL_6 G X) (O_Arr_fillL G X) t
theorem w_Arr_fillL_6 {G : jG} {X : jX} (C : jC G X cJ7_fill_d0a16 5 RJ7 1 70) {v0 : Nat} {v1 : Int64} {v3 : Int32} {v4 : Int32} {h : Hp} {out : ((Nat × Int64 × Int32 × Int32 × Hp) ⊕ Hp)} (O : (O_Arr_fillL_6 G X) out) (hm : s_Arr_fillL_6 v0 v1 v3 v4 h = some out) : J G X 6 [(0, .ref (G.1 + v0)), (1, .long v1), (3, .int v3), (4, .int v4)] [] h := by
  unfold s_Arr_fillL_6 at hm
  refine j_iload_n C 2 dJ7_fill_d0a16_6 rfl rfl ?_
  refine j_iload C 3 dJ7_fill_d0a16_7 rfl ?_
  refine j_if_icmpge C 22 dJ7_fill_d0a16_9 (by decide) hm (fun hm => ?_) (fun hm => ?_)
  · obtain rfl := Option.some.inj hm
    exact j_vret C O dJ7_fill_d0a16_22
  · refine j_aload_n C 0 dJ7_fill_d0a16_12 rfl rfl ?_
    refine j_iload_n C 2 dJ7_fill_d0a16_13 rfl rfl ?_
    refine j_lload_n C 1 dJ7_fill_d0a16_14 rfl rfl ?_
    obtain ⟨c1, hm⟩ := ak_inv hm
    refine j_last C c1 hm dJ7_fill_d0a16_15 (fun hm => ?_)
    refine j_iinc C 2 [(3, .int (v3 + (1 : Int32))), (0, .ref (G.1 + v0)), (1, .long v1), (4, .int v4)] dJ7_fill_d0a16_16 rfl (add_lit (by decide)) (by decide) rfl ?_
    refine j_goto C 6 dJ7_fill_d0a16_19 (by decide) ?_
    obtain rfl := Option.some.inj hm
    refine j_sub (L' := [(0, .ref (G.1 + v0)), (1, .long v1), (3, .int (v3 + (1 : Int32))), (4, .int v4)]) [1, 2, 0, 3] rfl ?_
    exact O
theorem k_Arr_fillL_6 {G : jG} {X : jX} (C : jC G X cJ7_fill_d0a16 5 RJ7 1 70) {v0 : Nat} {v1 : Int64} {v3 : Int32} {v4 : Int32} {h : Hp} {out : Hp} (O : (O_Arr_fillL G X) out) (hm : lp (fun q => s_Arr_fillL_6 q.1 q.2.1 q.2.2.1 q.2.2.2.1 q.2.2.2.2) (v0, v1, v3, v4, h) = some out) : J G X 6 [(0, .ref (G.1 + v0)), (1, .long v1), (3, .int v3), (4, .int v4)] [] h :=
  lp_ok (P := P_Arr_fillL_6 G X) (O := (O_Arr_fillL G X)) (fun q r hm O => w_Arr_fillL_6 C O hm) hm O
theorem w_Arr_fillL {G : jG} {X : jX} (C : jC G X cJ7_fill_d0a16 5 RJ7 1 70) {v0 : Nat} {v1 : Int64} {h : Hp} {out : Hp} (O : (O_Arr_fillL G X) out) (hm : s_Arr_fillL v0 v1 h = some out) : J G X 0 [(0, .ref (G.1 + v0)), (1, .long v1)] [] h := by
  unfold s_Arr_fillL at hm
  refine j_iconst C 0 dJ7_fill_d0a16_0 (by decide) ?_
  refine j_istore_n C [(3, .int ((0 : Int32))), (0, .ref (G.1 + v0)), (1, .long v1)] dJ7_fill_d0a16_1 rfl (by decide) rfl ?_
  refine j_aload_n C 1 dJ7_fill_d0a16_2 rfl rfl ?_
  obtain ⟨c1, hm⟩ := ak_inv hm
  refine j_alenL C (nI (ln h v0)) c1 rfl dJ7_fill_d0a16_3 ?_
  refine j_istore C [(4, .int (nI (ln h v0))), (3, .int ((0 : Int32))), (0, .ref (G.1 + v0)), (1, .long v1)] dJ7_fill_d0a16_4 (by decide) rfl ?_
  refine j_sub (L' := [(0, .ref (G.1 + v0)), (1, .long v1), (3, .int ((0 : Int32))), (4, .int (nI (ln h v0)))]) [2, 3, 1, 0] rfl ?_
  exact k_Arr_fillL_6 C O hm
theorem c_Arr_fillL {G : jG} {l : Launch} {v0 : Nat} {v1 : Int64} {h : Hp} {out : Hp} (hm : s_Arr_fillL v0 v1 h = some out) : mt G l yJ7_fill_d0a16 cJ7_fill_d0a16 5 (none) 1 70 [.ref (G.1 + v0), .long v1] h none out :=
  mt_of (by decide) (Nat.le_of_ble_eq_true rfl) _ rfl (fun X I C O => w_Arr_fillL C O hm)
noncomputable def s_Race_isWithin_15 (s0 : Int32) (h : Hp) : Option Int32 :=
  bz s0 <| some (s0)
noncomputable def s_Race_isWithin_14 (h : Hp) : Option Int32 :=
  s_Race_isWithin_15 ((0 : Int32)) h
noncomputable def s_Race_isWithin (v0 : Int32) (v1 : Int32) (v2 : Int32) (h : Hp) : Option Int32 :=
  if v0 < v1 then
    s_Race_isWithin_14 h
  else
    if v2 < v0 then
      s_Race_isWithin_14 h
    else
      s_Race_isWithin_15 ((1 : Int32)) h
def O_Race_isWithin (G : jG) (X : jX) (h : Hp) (out : Int32) : Prop := jO G X (some .boolean) (some (.int out)) h
theorem w_Race_isWithin_15 {G : jG} {X : jX} (C : jC G X cX11_isWithin 3 RX11 1 70) {s0 : Int32} {h : Hp} {out : Int32} (O : (O_Race_isWithin G X h) out) (hm : s_Race_isWithin_15 s0 h = some out) : J G X 15 [] [.int s0] h := by
  unfold s_Race_isWithin_15 at hm
  obtain ⟨cz, hm⟩ := bz_inv hm
  obtain rfl := Option.some.inj hm
  exact j_zret C O cz dX11_isWithin_15
theorem w_Race_isWithin_14 {G : jG} {X : jX} (C : jC G X cX11_isWithin 3 RX11 1 70) {h : Hp} {out : Int32} (O : (O_Race_isWithin G X h) out) (hm : s_Race_isWithin_14 h = some out) : J G X 14 [] [] h := by
  unfold s_Race_isWithin_14 at hm
  refine j_iconst C 0 dX11_isWithin_14 (by decide) ?_
  refine j_sub (L' := []) [] rfl ?_
  exact w_Race_isWithin_15 C O hm
theorem w_Race_isWithin {G : jG} {X : jX} (C : jC G X cX11_isWithin 3 RX11 1 70) {v0 : Int32} {v1 : Int32} {v2 : Int32} {h : Hp} {out : Int32} (O : (O_Race_isWithin G X h) out) (hm : s_Race_isWithin v0 v1 v2 h = some out) : J G X 0 [(0, .int v0), (1, .int v1), (2, .int v2)] [] h := by
  unfold s_Race_isWithin at hm
  refine j_iload_n C 0 dX11_isWithin_0 rfl rfl ?_
  refine j_iload_n C 1 dX11_isWithin_1 rfl rfl ?_
  refine j_if_icmplt C 14 dX11_isWithin_2 (by decide) hm (fun hm => ?_) (fun hm => ?_)
  · refine j_sub (L' := []) [] rfl ?_
    exact w_Race_isWithin_14 C O hm
  · refine j_iload_n C 0 dX11_isWithin_5 rfl rfl ?_
    refine j_iload_n C 2 dX11_isWithin_6 rfl rfl ?_
    refine j_if_icmpgt C 14 dX11_isWithin_7 (by decide) hm (fun hm => ?_) (fun hm => ?_)
    · refine j_sub (L' := []) [] rfl ?_
      exact w_Race_isWithin_14 C O hm
    · refine j_iconst C 1 dX11_isWithin_10 (by decide) ?_
      refine j_goto C 15 dX11_isWithin_11 (by decide) ?_
      refine j_sub (L' := []) [] rfl ?_
      exact w_Race_isWithin_15 C O hm
theorem c_Race_isWithin {G : jG} {l : Launch} {v0 : Int32} {v1 : Int32} {v2 : Int32} {h : Hp} {out : Int32} (hm : s_Race_isWithin v0 v1 v2 h = some out) : mt G l yX11_isWithin cX11_isWithin 3 (some .boolean) 1 70 [.int v0, .int v1, .int v2] h (some (.int out)) h :=
  mt_of (by decide) (Nat.le_of_ble_eq_true rfl) _ rfl (fun X I C O => w_Race_isWithin C O hm)
noncomputable def s_Drift_landing_38 (s0 : Int32) (h : Hp) : Option Int32 :=
  some (s0)
noncomputable def s_Drift_landing_27 (v1 : Int32) (s0 : Int32) (h : Hp) : Option Int32 :=
  if s0 = 0 then
    s_Drift_landing_38 ((51 : Int32)) h
  else
    s_Drift_landing_38 v1 h
noncomputable def s_Drift_landing_26 (v1 : Int32) (h : Hp) : Option Int32 :=
  s_Drift_landing_27 v1 ((0 : Int32)) h
noncomputable def s_Drift_landing (v1 : Int32) (h : Hp) : Option Int32 :=
  (s_Race_isWithin v1 ((0 : Int32)) ((49 : Int32)) h).bind fun u1 => if u1 = 0 then
    s_Drift_landing_26 v1 h
  else
    ib v1 50 <| if (hI h 5 (ix v1)) = 0 then
      s_Drift_landing_26 v1 h
    else
      s_Drift_landing_27 v1 ((1 : Int32)) h
def O_Drift_landing (G : jG) (X : jX) (h : Hp) (out : Int32) : Prop := jO G X (some .int) (some (.int out)) h
theorem w_Drift_landing_38 {G : jG} {X : jX} (C : jC G X cX0_landing 3 RX0 2 92) {s0 : Int32} {h : Hp} {out : Int32} (O : (O_Drift_landing G X h) out) (hm : s_Drift_landing_38 s0 h = some out) : J G X 38 [] [.int s0] h := by
  unfold s_Drift_landing_38 at hm
  obtain rfl := Option.some.inj hm
  exact j_iret C O dX0_landing_38
theorem w_Drift_landing_27 {G : jG} {X : jX} (C : jC G X cX0_landing 3 RX0 2 92) {v1 : Int32} {s0 : Int32} {h : Hp} {out : Int32} (O : (O_Drift_landing G X h) out) (hm : s_Drift_landing_27 v1 s0 h = some out) : J G X 27 [(1, .int v1)] [.int s0] h := by
  unfold s_Drift_landing_27 at hm
  refine j_istore_n C [(2, .int s0), (1, .int v1)] dX0_landing_27 rfl (by decide) rfl ?_
  refine j_iload_n C 0 dX0_landing_28 rfl rfl ?_
  refine j_ifeq C 36 dX0_landing_29 (by decide) hm (fun hm => ?_) (fun hm => ?_)
  · refine j_bipush C 51 dX0_landing_36 (by decide) ?_
    refine j_sub (L' := []) [] rfl ?_
    exact w_Drift_landing_38 C O hm
  · refine j_iload_n C 1 dX0_landing_32 rfl rfl ?_
    refine j_goto C 38 dX0_landing_33 (by decide) ?_
    refine j_sub (L' := []) [] rfl ?_
    exact w_Drift_landing_38 C O hm
theorem w_Drift_landing_26 {G : jG} {X : jX} (C : jC G X cX0_landing 3 RX0 2 92) {v1 : Int32} {h : Hp} {out : Int32} (O : (O_Drift_landing G X h) out) (hm : s_Drift_landing_26 v1 h = some out) : J G X 26 [(1, .int v1)] [] h := by
  unfold s_Drift_landing_26 at hm
  refine j_iconst C 0 dX0_landing_26 (by decide) ?_
  refine j_sub (L' := [(1, .int v1)]) [0] rfl ?_
  exact w_Drift_landing_27 C O hm
theorem w_Drift_landing {G : jG} {X : jX} (C : jC G X cX0_landing 3 RX0 2 92) {v1 : Int32} {h : Hp} {out : Int32} (O : (O_Drift_landing G X h) out) (hm : s_Drift_landing v1 h = some out) : J G X 0 [(0, .ref (G.1 + 80)), (1, .int v1)] [] h := by
  unfold s_Drift_landing at hm
  refine j_iload_n C 1 dX0_landing_0 rfl rfl ?_
  refine j_iconst C 0 dX0_landing_1 (by decide) ?_
  refine j_bipush C 49 dX0_landing_2 (by decide) ?_
  refine j_cN C l_X0_66 [.int v1, .int ((0 : Int32)), .int ((49 : Int32))] [] (fun u1 => some (.int u1)) (fun _ => h) (fun u1 => [.int u1]) hm (fun l u hu => c_Race_isWithin hu) rfl (Nat.le_of_ble_eq_true rfl) rfl (Nat.le_of_ble_eq_true rfl) (Nat.le_of_ble_eq_true rfl) (fun _ => rfl) dX0_landing_4 (fun u1 hm => ?_)
  refine j_ifeq C 26 dX0_landing_7 (by decide) hm (fun hm => ?_) (fun hm => ?_)
  · refine j_sub (L' := [(1, .int v1)]) [1] rfl ?_
    exact w_Drift_landing_26 C O hm
  · refine j_aload_n C 0 dX0_landing_10 rfl rfl ?_
    refine j_gS C f_X0_18 n_80 q_80_0 dX0_landing_11 ?_
    refine j_gS C f_X0_40 n_1 q_1_3 dX0_landing_14 ?_
    refine j_iload_n C 1 dX0_landing_17 rfl rfl ?_
    refine j_iald C n_5 hm dX0_landing_18 (fun hm => ?_)
    refine j_ifeq C 26 dX0_landing_19 (by decide) hm (fun hm => ?_) (fun hm => ?_)
    · refine j_sub (L' := [(1, .int v1)]) [1] rfl ?_
      exact w_Drift_landing_26 C O hm
    · refine j_iconst C 1 dX0_landing_22 (by decide) ?_
      refine j_goto C 27 dX0_landing_23 (by decide) ?_
      refine j_sub (L' := [(1, .int v1)]) [1] rfl ?_
      exact w_Drift_landing_27 C O hm
theorem c_Drift_landing {G : jG} {l : Launch} {v1 : Int32} {h : Hp} {out : Int32} (hm : s_Drift_landing v1 h = some out) : mt G l yX0_landing cX0_landing 3 (some .int) 2 92 [.ref (G.1 + 80), .int v1] h (some (.int out)) h :=
  mt_of (by decide) (Nat.le_of_ble_eq_true rfl) _ rfl (fun X I C O => w_Drift_landing C O hm)
noncomputable def s_Water_flowOf_84 (v2 : Int32) (h : Hp) : Option Int32 :=
  ib v2 1440 <| some (hI h 57 (ix v2))
noncomputable def s_Water_flowOf (v1 : Int32) (v2 : Int32) (h : Hp) : Option Int32 :=
  if v1 = 0 then
    some ((0 : Int32))
  else if v1 = 1 then
    s_Water_flowOf_84 v2 h
  else if v1 = 2 then
    ib ((5 : Int32)) 11 <| ib (z_min (v2 + (hI h 4 (ix ((5 : Int32))))) ((1439 : Int32))) 1440 <| some ((-(hI h 57 (ix (z_min (v2 + (hI h 4 (ix ((5 : Int32))))) ((1439 : Int32)))))) / ((2 : Int32)))
  else if v1 = 3 then
    ib v2 1440 <| some ((hI h 57 (ix v2)) / ((4 : Int32)))
  else if v1 = 4 then
    ib v2 1440 <| some (((hI h 57 (ix v2)) * ((5 : Int32))) / ((4 : Int32)))
  else 
    s_Water_flowOf_84 v2 h
def O_Water_flowOf (G : jG) (X : jX) (h : Hp) (out : Int32) : Prop := jO G X (some .int) (some (.int out)) h
theorem w_Water_flowOf_84 {G : jG} {X : jX} (C : jC G X cX9_flowOf 3 RX9 1 70) {v2 : Int32} {h : Hp} {out : Int32} (O : (O_Water_flowOf G X h) out) (hm : s_Water_flowOf_84 v2 h = some out) : J G X 84 [(0, .ref (G.1 + 50)), (2, .int v2)] [] h := by
  unfold s_Water_flowOf_84 at hm
  refine j_aload_n C 0 dX9_flowOf_84 rfl rfl ?_
  refine j_gS C f_X9_29 n_50 q_50_5 dX9_flowOf_85 ?_
  refine j_iload_n C 1 dX9_flowOf_88 rfl rfl ?_
  refine j_iald C n_57 hm dX9_flowOf_89 (fun hm => ?_)
  obtain rfl := Option.some.inj hm
  exact j_iret C O dX9_flowOf_90
theorem w_Water_flowOf {G : jG} {X : jX} (C : jC G X cX9_flowOf 3 RX9 1 70) {v1 : Int32} {v2 : Int32} {h : Hp} {out : Int32} (O : (O_Water_flowOf G X h) out) (hm : s_Water_flowOf v1 v2 h = some out) : J G X 0 [(0, .ref (G.1 + 50)), (1, .int v1), (2, .int v2)] [] h := by
  unfold s_Water_flowOf at hm
  refine j_iload_n C 1 dX9_flowOf_0 rfl rfl ?_
  rcases if_inv hm with ⟨c1, hm⟩ | ⟨c1, hm⟩
  · refine j_swIn C 0 36 dX9_flowOf_1 c1 (by decide) (by decide) rfl (by decide) ?_
    refine j_iconst C 0 dX9_flowOf_36 (by decide) ?_
    obtain rfl := Option.some.inj hm
    exact j_iret C O dX9_flowOf_37
  rcases if_inv hm with ⟨c2, hm⟩ | ⟨c2, hm⟩
  · refine j_swIn C 1 84 dX9_flowOf_1 c2 (by decide) (by decide) rfl (by decide) ?_
    refine j_sub (L' := [(0, .ref (G.1 + 50)), (2, .int v2)]) [0, 2] rfl ?_
    exact w_Water_flowOf_84 C O hm
  rcases if_inv hm with ⟨c3, hm⟩ | ⟨c3, hm⟩
  · refine j_swIn C 2 38 dX9_flowOf_1 c3 (by decide) (by decide) rfl (by decide) ?_
    refine j_aload_n C 0 dX9_flowOf_38 rfl rfl ?_
    refine j_gS C f_X9_29 n_50 q_50_5 dX9_flowOf_39 ?_
    refine j_iload_n C 2 dX9_flowOf_42 rfl rfl ?_
    refine j_aload_n C 0 dX9_flowOf_43 rfl rfl ?_
    refine j_gS C f_X9_58 n_50 q_50_0 dX9_flowOf_44 ?_
    refine j_gS C f_X9_90 n_1 q_1_2 dX9_flowOf_47 ?_
    refine j_iconst C 5 dX9_flowOf_50 (by decide) ?_
    refine j_iald C n_4 hm dX9_flowOf_51 (fun hm => ?_)
    refine j_iadd C dX9_flowOf_52 ?_
    refine j_sipush C 1439 dX9_flowOf_53 (by decide) ?_
    refine j_mmin C wd_961 wd_789 wd_126 wd_790 (Nat.le_of_ble_eq_true rfl) (Nat.le_of_ble_eq_true rfl) dX9_flowOf_56 ?_
    refine j_iald C n_57 hm dX9_flowOf_59 (fun hm => ?_)
    refine j_ineg C dX9_flowOf_60 ?_
    refine j_iconst C 2 dX9_flowOf_61 (by decide) ?_
    refine j_idiv C dX9_flowOf_62 (by decide) ?_
    obtain rfl := Option.some.inj hm
    exact j_iret C O dX9_flowOf_63
  rcases if_inv hm with ⟨c4, hm⟩ | ⟨c4, hm⟩
  · refine j_swIn C 3 64 dX9_flowOf_1 c4 (by decide) (by decide) rfl (by decide) ?_
    refine j_aload_n C 0 dX9_flowOf_64 rfl rfl ?_
    refine j_gS C f_X9_29 n_50 q_50_5 dX9_flowOf_65 ?_
    refine j_iload_n C 2 dX9_flowOf_68 rfl rfl ?_
    refine j_iald C n_57 hm dX9_flowOf_69 (fun hm => ?_)
    refine j_iconst C 4 dX9_flowOf_70 (by decide) ?_
    refine j_idiv C dX9_flowOf_71 (by decide) ?_
    obtain rfl := Option.some.inj hm
    exact j_iret C O dX9_flowOf_72
  rcases if_inv hm with ⟨c5, hm⟩ | ⟨c5, hm⟩
  · refine j_swIn C 4 73 dX9_flowOf_1 c5 (by decide) (by decide) rfl (by decide) ?_
    refine j_aload_n C 0 dX9_flowOf_73 rfl rfl ?_
    refine j_gS C f_X9_29 n_50 q_50_5 dX9_flowOf_74 ?_
    refine j_iload_n C 2 dX9_flowOf_77 rfl rfl ?_
    refine j_iald C n_57 hm dX9_flowOf_78 (fun hm => ?_)
    refine j_iconst C 5 dX9_flowOf_79 (by decide) ?_
    refine j_imul C dX9_flowOf_80 ?_
    refine j_iconst C 4 dX9_flowOf_81 (by decide) ?_
    refine j_idiv C dX9_flowOf_82 (by decide) ?_
    obtain rfl := Option.some.inj hm
    exact j_iret C O dX9_flowOf_83
  refine j_tableOut C 84 dX9_flowOf_1 (by have e0 := sw_ne (n := 0) c1 (by decide); have e1 := sw_ne (n := 1) c2 (by decide); have e2 := sw_ne (n := 2) c3 (by decide); have e3 := sw_ne (n := 3) c4 (by decide); have e4 := sw_ne (n := 4) c5 (by decide); omega) (by decide) ?_
  refine j_sub (L' := [(0, .ref (G.1 + 50)), (2, .int v2)]) [0, 2] rfl ?_
  exact w_Water_flowOf_84 C O hm
theorem c_Water_flowOf {G : jG} {l : Launch} {v1 : Int32} {v2 : Int32} {h : Hp} {out : Int32} (hm : s_Water_flowOf v1 v2 h = some out) : mt G l yX9_flowOf cX9_flowOf 3 (some .int) 1 70 [.ref (G.1 + 50), .int v1, .int v2] h (some (.int out)) h :=
  mt_of (by decide) (Nat.le_of_ble_eq_true rfl) _ rfl (fun X I C O => w_Water_flowOf C O hm)
noncomputable def s_Drift_spread_99 (v1 : Int64) (v3 : Int32) (v5 : Nat) (v7 : Int32) (s0 : Int32) (h : Hp) : Option Hp :=
  ak h v5 1 <| ib s0 (ln h v5) <| ak h v5 1 <| ib s0 (ln h v5) <| (s_Drift_landing (v3 + ((10 : Int32))) (sL h v5 (ix s0) ((hL h v5 (ix s0)) + ((v1 * ((2 : Int64))) * (Int32.toInt64 v7))))).bind fun u3 => lt (sL h v5 (ix s0) ((hL h v5 (ix s0)) + ((v1 * ((2 : Int64))) * (Int32.toInt64 v7)))) fun h4 => ak h4 v5 1 <| ib u3 (ln h4 v5) <| ak h4 v5 1 <| ib u3 (ln h4 v5) <| (s_Drift_landing (v3 - ((10 : Int32))) (sL h4 v5 (ix u3) ((hL h4 v5 (ix u3)) + (v1 * (Int32.toInt64 (((100 : Int32)) - v7)))))).bind fun u7 => lt (sL h4 v5 (ix u3) ((hL h4 v5 (ix u3)) + (v1 * (Int32.toInt64 (((100 : Int32)) - v7))))) fun h8 => ak h8 v5 1 <| ib u7 (ln h8 v5) <| ak h8 v5 1 <| ib u7 (ln h8 v5) <| some (sL h8 v5 (ix u7) ((hL h8 v5 (ix u7)) + (v1 * (Int32.toInt64 (((100 : Int32)) - v7)))))
noncomputable def s_Drift_spread_96 (v1 : Int64) (v3 : Int32) (v5 : Nat) (v7 : Int32) (s0 : Int32) (h : Hp) : Option Hp :=
  (s_Drift_landing s0 h).bind fun u1 => s_Drift_spread_99 v1 v3 v5 v7 u1 h
noncomputable def s_Drift_spread_69 (v1 : Int64) (v3 : Int32) (v5 : Nat) (v6 : Int32) (v7 : Int32) (s0 : Int32) (h : Hp) : Option Hp :=
  if s0 = 0 then
    if v6 ≤ 0 then
      s_Drift_spread_96 v1 v3 v5 v7 (v3 - ((1 : Int32))) h
    else
      s_Drift_spread_96 v1 v3 v5 v7 (v3 + ((1 : Int32))) h
  else
    s_Drift_spread_99 v1 v3 v5 v7 ((50 : Int32)) h
noncomputable def s_Drift_spread_64 (v1 : Int64) (v3 : Int32) (v5 : Nat) (v6 : Int32) (v7 : Int32) (h : Hp) : Option Hp :=
  s_Drift_spread_69 v1 v3 v5 v6 v7 ((1 : Int32)) h
noncomputable def s_Drift_spread_49 (v1 : Int64) (v3 : Int32) (v5 : Nat) (v6 : Int32) (v7 : Int32) (s0 : Int32) (s1 : Int32) (h : Hp) : Option Hp :=
  if (s1 + s0) < 0 then
    s_Drift_spread_64 v1 v3 v5 v6 v7 h
  else
    if (s1 + s0) < ((10 : Int32)) then
      s_Drift_spread_69 v1 v3 v5 v6 v7 ((0 : Int32)) h
    else
      s_Drift_spread_64 v1 v3 v5 v6 v7 h
noncomputable def s_Drift_spread (v1 : Int64) (v3 : Int32) (v4 : Int32) (v5 : Nat) (h : Hp) : Option Hp :=
  ib v3 50 <| (s_Water_flowOf (hI h 5 (ix v3)) v4 h).bind fun u1 => lt (z_min ((100 : Int32)) ((z_abs u1) / ((10 : Int32)))) fun x2 => if u1 ≤ 0 then
    s_Drift_spread_49 v1 v3 v5 u1 x2 ((-1 : Int32)) (z_rem v3 ((10 : Int32))) h
  else
    s_Drift_spread_49 v1 v3 v5 u1 x2 ((1 : Int32)) (z_rem v3 ((10 : Int32))) h
def O_Drift_spread (G : jG) (X : jX) (out : Hp) : Prop := jO G X (none) none out
theorem w_Drift_spread_99 {G : jG} {X : jX} (C : jC G X cX0_spread 11 RX0 3 114) {v1 : Int64} {v3 : Int32} {v5 : Nat} {v7 : Int32} {s0 : Int32} {h : Hp} {out : Hp} (O : (O_Drift_spread G X) out) (hm : s_Drift_spread_99 v1 v3 v5 v7 s0 h = some out) : J G X 99 [(0, .ref (G.1 + 80)), (1, .long v1), (3, .int v3), (5, .ref (G.1 + v5)), (7, .int v7)] [.int s0] h := by
  unfold s_Drift_spread_99 at hm
  refine j_istore C [(10, .int s0), (0, .ref (G.1 + 80)), (1, .long v1), (3, .int v3), (5, .ref (G.1 + v5)), (7, .int v7)] dX0_spread_99 (by decide) rfl ?_
  refine j_aload C 4 dX0_spread_101 rfl ?_
  refine j_iload C 0 dX0_spread_103 rfl ?_
  refine j_dup2_11 C dX0_spread_105 rfl rfl ?_
  obtain ⟨c1, hm⟩ := ak_inv hm
  refine j_lald C c1 hm dX0_spread_106 (fun hm => ?_)
  refine j_lload_n C 2 dX0_spread_107 rfl rfl ?_
  refine j_ldc2 C wd_1282 dX0_spread_108 ?_
  refine j_lmul C dX0_spread_111 ?_
  refine j_iload C 5 dX0_spread_112 rfl ?_
  refine j_i2l C dX0_spread_114 ?_
  refine j_lmul C dX0_spread_115 ?_
  refine j_ladd C dX0_spread_116 ?_
  obtain ⟨c2, hm⟩ := ak_inv hm
  refine j_last C c2 hm dX0_spread_117 (fun hm => ?_)
  refine j_aload C 4 dX0_spread_118 rfl ?_
  refine j_aload_n C 1 dX0_spread_120 rfl rfl ?_
  refine j_iload_n C 3 dX0_spread_121 rfl rfl ?_
  refine j_bipush C 10 dX0_spread_122 (by decide) ?_
  refine j_iadd C dX0_spread_124 ?_
  refine j_cV C l_X0_61 [.int (v3 + ((10 : Int32)))] [.ref (G.1 + v5)] (fun u3 => some (.int u3)) (fun _ => sL h v5 (ix s0) ((hL h v5 (ix s0)) + ((v1 * ((2 : Int64))) * (Int32.toInt64 v7)))) (fun u3 => [.int u3, .ref (G.1 + v5)]) n_80 hm (fun l u hu => c_Drift_landing hu) rfl (Nat.le_of_ble_eq_true rfl) rfl (Nat.le_of_ble_eq_true rfl) (Nat.le_of_ble_eq_true rfl) (fun _ => rfl) dX0_spread_125 (fun u3 hm => ?_)
  refine j_dup2_11 C dX0_spread_128 rfl rfl ?_
  refine j_nmH hm (fun h4 hm => ?_)
  obtain ⟨c5, hm⟩ := ak_inv hm
  refine j_lald C c5 hm dX0_spread_129 (fun hm => ?_)
  refine j_lload_n C 2 dX0_spread_130 rfl rfl ?_
  refine j_bipush C 100 dX0_spread_131 (by decide) ?_
  refine j_iload C 5 dX0_spread_133 rfl ?_
  refine j_isub C dX0_spread_135 ?_
  refine j_i2l C dX0_spread_136 ?_
  refine j_lmul C dX0_spread_137 ?_
  refine j_ladd C dX0_spread_138 ?_
  obtain ⟨c6, hm⟩ := ak_inv hm
  refine j_last C c6 hm dX0_spread_139 (fun hm => ?_)
  refine j_aload C 4 dX0_spread_140 rfl ?_
  refine j_aload_n C 1 dX0_spread_142 rfl rfl ?_
  refine j_iload_n C 3 dX0_spread_143 rfl rfl ?_
  refine j_bipush C 10 dX0_spread_144 (by decide) ?_
  refine j_isub C dX0_spread_146 ?_
  refine j_cV C l_X0_61 [.int (v3 - ((10 : Int32)))] [.ref (G.1 + v5)] (fun u7 => some (.int u7)) (fun _ => sL h4 v5 (ix u3) ((hL h4 v5 (ix u3)) + (v1 * (Int32.toInt64 (((100 : Int32)) - v7))))) (fun u7 => [.int u7, .ref (G.1 + v5)]) n_80 hm (fun l u hu => c_Drift_landing hu) rfl (Nat.le_of_ble_eq_true rfl) rfl (Nat.le_of_ble_eq_true rfl) (Nat.le_of_ble_eq_true rfl) (fun _ => rfl) dX0_spread_147 (fun u7 hm => ?_)
  refine j_dup2_11 C dX0_spread_150 rfl rfl ?_
  refine j_nmH hm (fun h8 hm => ?_)
  obtain ⟨c9, hm⟩ := ak_inv hm
  refine j_lald C c9 hm dX0_spread_151 (fun hm => ?_)
  refine j_lload_n C 2 dX0_spread_152 rfl rfl ?_
  refine j_bipush C 100 dX0_spread_153 (by decide) ?_
  refine j_iload C 5 dX0_spread_155 rfl ?_
  refine j_isub C dX0_spread_157 ?_
  refine j_i2l C dX0_spread_158 ?_
  refine j_lmul C dX0_spread_159 ?_
  refine j_ladd C dX0_spread_160 ?_
  obtain ⟨c10, hm⟩ := ak_inv hm
  refine j_last C c10 hm dX0_spread_161 (fun hm => ?_)
  obtain rfl := Option.some.inj hm
  exact j_vret C O dX0_spread_162
theorem w_Drift_spread_96 {G : jG} {X : jX} (C : jC G X cX0_spread 11 RX0 3 114) {v1 : Int64} {v3 : Int32} {v5 : Nat} {v7 : Int32} {s0 : Int32} {h : Hp} {out : Hp} (O : (O_Drift_spread G X) out) (hm : s_Drift_spread_96 v1 v3 v5 v7 s0 h = some out) : J G X 96 [(0, .ref (G.1 + 80)), (1, .long v1), (3, .int v3), (5, .ref (G.1 + v5)), (7, .int v7)] [.int s0, .ref (G.1 + 80)] h := by
  unfold s_Drift_spread_96 at hm
  refine j_cV C l_X0_61 [.int s0] [] (fun u1 => some (.int u1)) (fun _ => h) (fun u1 => [.int u1]) n_80 hm (fun l u hu => c_Drift_landing hu) rfl (Nat.le_of_ble_eq_true rfl) rfl (Nat.le_of_ble_eq_true rfl) (Nat.le_of_ble_eq_true rfl) (fun _ => rfl) dX0_spread_96 (fun u1 hm => ?_)
  refine j_sub (L' := [(0, .ref (G.1 + 80)), (1, .long v1), (3, .int v3), (5, .ref (G.1 + v5)), (7, .int v7)]) [0, 1, 2, 3, 4] rfl ?_
  exact w_Drift_spread_99 C O hm
theorem w_Drift_spread_69 {G : jG} {X : jX} (C : jC G X cX0_spread 11 RX0 3 114) {v1 : Int64} {v3 : Int32} {v5 : Nat} {v6 : Int32} {v7 : Int32} {s0 : Int32} {h : Hp} {out : Hp} (O : (O_Drift_spread G X) out) (hm : s_Drift_spread_69 v1 v3 v5 v6 v7 s0 h = some out) : J G X 69 [(0, .ref (G.1 + 80)), (1, .long v1), (3, .int v3), (5, .ref (G.1 + v5)), (6, .int v6), (7, .int v7)] [.int s0] h := by
  unfold s_Drift_spread_69 at hm
  refine j_istore C [(9, .int s0), (0, .ref (G.1 + 80)), (1, .long v1), (3, .int v3), (5, .ref (G.1 + v5)), (6, .int v6), (7, .int v7)] dX0_spread_69 (by decide) rfl ?_
  refine j_iload C 0 dX0_spread_71 rfl ?_
  refine j_ifeq C 81 dX0_spread_73 (by decide) hm (fun hm => ?_) (fun hm => ?_)
  · refine j_aload_n C 1 dX0_spread_81 rfl rfl ?_
    refine j_iload C 5 dX0_spread_82 rfl ?_
    refine j_ifle C 93 dX0_spread_84 (by decide) hm (fun hm => ?_) (fun hm => ?_)
    · refine j_iload_n C 3 dX0_spread_93 rfl rfl ?_
      refine j_iconst C 1 dX0_spread_94 (by decide) ?_
      refine j_isub C dX0_spread_95 ?_
      refine j_sub (L' := [(0, .ref (G.1 + 80)), (1, .long v1), (3, .int v3), (5, .ref (G.1 + v5)), (7, .int v7)]) [1, 2, 3, 4, 6] rfl ?_
      exact w_Drift_spread_96 C O hm
    · refine j_iload_n C 3 dX0_spread_87 rfl rfl ?_
      refine j_iconst C 1 dX0_spread_88 (by decide) ?_
      refine j_iadd C dX0_spread_89 ?_
      refine j_goto C 96 dX0_spread_90 (by decide) ?_
      refine j_sub (L' := [(0, .ref (G.1 + 80)), (1, .long v1), (3, .int v3), (5, .ref (G.1 + v5)), (7, .int v7)]) [1, 2, 3, 4, 6] rfl ?_
      exact w_Drift_spread_96 C O hm
  · refine j_bipush C 50 dX0_spread_76 (by decide) ?_
    refine j_goto C 99 dX0_spread_78 (by decide) ?_
    refine j_sub (L' := [(0, .ref (G.1 + 80)), (1, .long v1), (3, .int v3), (5, .ref (G.1 + v5)), (7, .int v7)]) [1, 2, 3, 4, 6] rfl ?_
    exact w_Drift_spread_99 C O hm
theorem w_Drift_spread_64 {G : jG} {X : jX} (C : jC G X cX0_spread 11 RX0 3 114) {v1 : Int64} {v3 : Int32} {v5 : Nat} {v6 : Int32} {v7 : Int32} {h : Hp} {out : Hp} (O : (O_Drift_spread G X) out) (hm : s_Drift_spread_64 v1 v3 v5 v6 v7 h = some out) : J G X 64 [(0, .ref (G.1 + 80)), (1, .long v1), (3, .int v3), (5, .ref (G.1 + v5)), (6, .int v6), (7, .int v7)] [] h := by
  unfold s_Drift_spread_64 at hm
  refine j_iconst C 1 dX0_spread_64 (by decide) ?_
  refine j_goto C 69 dX0_spread_65 (by decide) ?_
  refine j_sub (L' := [(0, .ref (G.1 + 80)), (1, .long v1), (3, .int v3), (5, .ref (G.1 + v5)), (6, .int v6), (7, .int v7)]) [0, 1, 2, 3, 4, 5] rfl ?_
  exact w_Drift_spread_69 C O hm
theorem w_Drift_spread_49 {G : jG} {X : jX} (C : jC G X cX0_spread 11 RX0 3 114) {v1 : Int64} {v3 : Int32} {v5 : Nat} {v6 : Int32} {v7 : Int32} {s0 : Int32} {s1 : Int32} {h : Hp} {out : Hp} (O : (O_Drift_spread G X) out) (hm : s_Drift_spread_49 v1 v3 v5 v6 v7 s0 s1 h = some out) : J G X 49 [(0, .ref (G.1 + 80)), (1, .long v1), (3, .int v3), (5, .ref (G.1 + v5)), (6, .int v6), (7, .int v7)] [.int s0, .int s1] h := by
  unfold s_Drift_spread_49 at hm
  refine j_iadd C dX0_spread_49 ?_
  refine j_istore C [(8, .int (s1 + s0)), (0, .ref (G.1 + 80)), (1, .long v1), (3, .int v3), (5, .ref (G.1 + v5)), (6, .int v6), (7, .int v7)] dX0_spread_50 (by decide) rfl ?_
  refine j_iload C 0 dX0_spread_52 rfl ?_
  refine j_iflt C 64 dX0_spread_54 (by decide) hm (fun hm => ?_) (fun hm => ?_)
  · refine j_sub (L' := [(0, .ref (G.1 + 80)), (1, .long v1), (3, .int v3), (5, .ref (G.1 + v5)), (6, .int v6), (7, .int v7)]) [1, 2, 3, 4, 5, 6] rfl ?_
    exact w_Drift_spread_64 C O hm
  · refine j_iload C 0 dX0_spread_57 rfl ?_
    refine j_bipush C 10 dX0_spread_59 (by decide) ?_
    refine j_if_icmplt C 68 dX0_spread_61 (by decide) hm (fun hm => ?_) (fun hm => ?_)
    · refine j_iconst C 0 dX0_spread_68 (by decide) ?_
      refine j_sub (L' := [(0, .ref (G.1 + 80)), (1, .long v1), (3, .int v3), (5, .ref (G.1 + v5)), (6, .int v6), (7, .int v7)]) [1, 2, 3, 4, 5, 6] rfl ?_
      exact w_Drift_spread_69 C O hm
    · refine j_sub (L' := [(0, .ref (G.1 + 80)), (1, .long v1), (3, .int v3), (5, .ref (G.1 + v5)), (6, .int v6), (7, .int v7)]) [1, 2, 3, 4, 5, 6] rfl ?_
      exact w_Drift_spread_64 C O hm
theorem w_Drift_spread {G : jG} {X : jX} (C : jC G X cX0_spread 11 RX0 3 114) {v1 : Int64} {v3 : Int32} {v4 : Int32} {v5 : Nat} {h : Hp} {out : Hp} (O : (O_Drift_spread G X) out) (hm : s_Drift_spread v1 v3 v4 v5 h = some out) : J G X 0 [(0, .ref (G.1 + 80)), (1, .long v1), (3, .int v3), (4, .int v4), (5, .ref (G.1 + v5))] [] h := by
  unfold s_Drift_spread at hm
  refine j_aload_n C 0 dX0_spread_0 rfl rfl ?_
  refine j_gS C f_X0_22 n_80 q_80_1 dX0_spread_1 ?_
  refine j_aload_n C 0 dX0_spread_4 rfl rfl ?_
  refine j_gS C f_X0_18 n_80 q_80_0 dX0_spread_5 ?_
  refine j_gS C f_X0_40 n_1 q_1_3 dX0_spread_8 ?_
  refine j_iload_n C 2 dX0_spread_11 rfl rfl ?_
  refine j_iald C n_5 hm dX0_spread_12 (fun hm => ?_)
  refine j_iload C 3 dX0_spread_13 rfl ?_
  refine j_cV C l_X0_46 [.int (hI h 5 (ix v3)), .int v4] [] (fun u1 => some (.int u1)) (fun _ => h) (fun u1 => [.int u1]) n_50 hm (fun l u hu => c_Water_flowOf hu) rfl (Nat.le_of_ble_eq_true rfl) rfl (Nat.le_of_ble_eq_true rfl) (Nat.le_of_ble_eq_true rfl) (fun _ => rfl) dX0_spread_15 (fun u1 hm => ?_)
  refine j_istore C [(6, .int u1), (0, .ref (G.1 + 80)), (1, .long v1), (3, .int v3), (4, .int v4), (5, .ref (G.1 + v5))] dX0_spread_18 (by decide) rfl ?_
  refine j_bipush C 100 dX0_spread_20 (by decide) ?_
  refine j_iload C 0 dX0_spread_22 rfl ?_
  refine j_mabs C wd_1275 wd_942 wd_126 wd_943 (Nat.le_of_ble_eq_true rfl) (Nat.le_of_ble_eq_true rfl) dX0_spread_24 ?_
  refine j_bipush C 10 dX0_spread_27 (by decide) ?_
  refine j_idiv C dX0_spread_29 (by decide) ?_
  refine j_mmin C wd_1276 wd_789 wd_126 wd_790 (Nat.le_of_ble_eq_true rfl) (Nat.le_of_ble_eq_true rfl) dX0_spread_30 ?_
  refine j_nmI hm (fun x2 hm => ?_)
  refine j_istore C [(7, .int x2), (6, .int u1), (0, .ref (G.1 + 80)), (1, .long v1), (3, .int v3), (4, .int v4), (5, .ref (G.1 + v5))] dX0_spread_33 (by decide) rfl ?_
  refine j_iload_n C 4 dX0_spread_35 rfl rfl ?_
  refine j_bipush C 10 dX0_spread_36 (by decide) ?_
  refine j_irem C dX0_spread_38 (by decide) ?_
  refine j_iload C 1 dX0_spread_39 rfl ?_
  refine j_ifle C 48 dX0_spread_41 (by decide) hm (fun hm => ?_) (fun hm => ?_)
  · refine j_iconst C (-1 : Int32) dX0_spread_48 (by decide) ?_
    refine j_sub (L' := [(0, .ref (G.1 + 80)), (1, .long v1), (3, .int v3), (5, .ref (G.1 + v5)), (6, .int u1), (7, .int x2)]) [2, 3, 4, 6, 1, 0] rfl ?_
    exact w_Drift_spread_49 C O hm
  · refine j_iconst C 1 dX0_spread_44 (by decide) ?_
    refine j_goto C 49 dX0_spread_45 (by decide) ?_
    refine j_sub (L' := [(0, .ref (G.1 + 80)), (1, .long v1), (3, .int v3), (5, .ref (G.1 + v5)), (6, .int u1), (7, .int x2)]) [2, 3, 4, 6, 1, 0] rfl ?_
    exact w_Drift_spread_49 C O hm
theorem c_Drift_spread {G : jG} {l : Launch} {v1 : Int64} {v3 : Int32} {v4 : Int32} {v5 : Nat} {h : Hp} {out : Hp} (hm : s_Drift_spread v1 v3 v4 v5 h = some out) : mt G l yX0_spread cX0_spread 11 (none) 3 114 [.ref (G.1 + 80), .long v1, .int v3, .int v4, .ref (G.1 + v5)] h none out :=
  mt_of (by decide) (Nat.le_of_ble_eq_true rfl) _ rfl (fun X I C O => w_Drift_spread C O hm)
noncomputable def s_Drift_chance_109 (v2 : Int32) (v3 : Int32) (v4 : Int32) (v5 : Nat) (v6 : Nat) (v7 : Int64) (v9 : Int32) (v10 : Int32) (h : Hp) : Option ((Int32 × Int32 × Int32 × Nat × Nat × Int64 × Int32 × Int32 × Hp) ⊕ ((Int32 × Int32 × Int32 × Nat × Nat × Int64 × Int32 × Hp) ⊕ (Int32 × Hp))) :=
  some (.inl (v2, v3, v4, v5, v6, v7, v9, (v10 + (1 : Int32)), h))
noncomputable def s_Drift_chance_72 (v2 : Int32) (v3 : Int32) (v4 : Int32) (v5 : Nat) (v6 : Nat) (v7 : Int64) (v9 : Int32) (v10 : Int32) (h : Hp) : Option ((Int32 × Int32 × Int32 × Nat × Nat × Int64 × Int32 × Int32 × Hp) ⊕ ((Int32 × Int32 × Int32 × Nat × Nat × Int64 × Int32 × Hp) ⊕ (Int32 × Hp))) :=
  if ((50 : Int32)) ≤ v10 then
    some (.inr (.inl (v2, v3, v4, v6, v5, (v7 * ((200 : Int64))), (v9 + (1 : Int32)), h)))
  else
    ak h v5 1 <| ib v10 (ln h v5) <| if (lg_cmp (hL h v5 (ix v10)) ((0 : Int64))) = 0 then
      s_Drift_chance_109 v2 v3 v4 v5 v6 v7 v9 v10 h
    else
      ak h v5 1 <| ib v10 (ln h v5) <| (s_Drift_spread (hL h v5 (ix v10)) v10 ((v2 + v9) * ((10 : Int32))) v6 h).bind fun u3 => s_Drift_chance_109 v2 v3 v4 v5 v6 v7 v9 v10 u3
noncomputable def s_Drift_chance_177 (s0 : Int64) (h : Hp) : Option (Int32 × Hp) :=
  some (Int64.toInt32 s0, h)
noncomputable def s_Drift_chance_29 (v2 : Int32) (v3 : Int32) (v4 : Int32) (v5 : Nat) (v6 : Nat) (v7 : Int64) (v9 : Int32) (h : Hp) : Option ((Int32 × Int32 × Int32 × Nat × Nat × Int64 × Int32 × Hp) ⊕ (Int32 × Hp)) :=
  if v3 ≤ v9 then
    if 0 < (lg_cmp v7 ((1000000 : Int64))) then
      ak h v5 1 <| ib v4 (ln h v5) <| cnL (v7 / ((1000000 : Int64))) <| inr (s_Drift_chance_177 ((hL h v5 (ix v4)) / (v7 / ((1000000 : Int64)))) h)
    else
      ak h v5 1 <| ib v4 (ln h v5) <| cnL v7 <| inr (s_Drift_chance_177 ((hL h v5 (ix v4)) * (((1000000 : Int64)) / v7)) h)
  else
    (s_Arr_fillL v6 ((0 : Int64)) h).bind fun u5 => ak u5 v5 1 <| ib ((50 : Int32)) (ln u5 v5) <| ak u5 v6 1 <| ib ((50 : Int32)) (ln u5 v6) <| lt (sL u5 v6 (ix ((50 : Int32))) ((hL u5 v5 (ix ((50 : Int32)))) * ((200 : Int64)))) fun h8 => ak h8 v5 1 <| ib ((51 : Int32)) (ln h8 v5) <| ak h8 v6 1 <| ib ((51 : Int32)) (ln h8 v6) <| lp (fun q => s_Drift_chance_72 q.1 q.2.1 q.2.2.1 q.2.2.2.1 q.2.2.2.2.1 q.2.2.2.2.2.1 q.2.2.2.2.2.2.1 q.2.2.2.2.2.2.2.1 q.2.2.2.2.2.2.2.2) (v2, v3, v4, v5, v6, v7, v9, ((0 : Int32)), (sL h8 v6 (ix ((51 : Int32))) ((hL h8 v5 (ix ((51 : Int32)))) * ((200 : Int64)))))
noncomputable def s_Drift_chance (v1 : Int32) (v2 : Int32) (v3 : Int32) (v4 : Int32) (h : Hp) : Option (Int32 × Hp) :=
  (s_Arr_fillL 81 ((0 : Int64)) h).bind fun u1 => ib v1 52 <| lp (fun q => s_Drift_chance_29 q.1 q.2.1 q.2.2.1 q.2.2.2.1 q.2.2.2.2.1 q.2.2.2.2.2.1 q.2.2.2.2.2.2.1 q.2.2.2.2.2.2.2) (v2, v3, v4, 81, 82, ((1 : Int64)), ((0 : Int32)), (sL u1 81 (ix v1) ((1 : Int64))))
def O_Drift_chance (G : jG) (X : jX) (out : (Int32 × Hp)) : Prop := jO G X (some .int) (some (.int out.1)) out.2
def P_Drift_chance_29 (G : jG) (X : jX) (q : Int32 × Int32 × Int32 × Nat × Nat × Int64 × Int32 × Hp) : Prop := J G X 29 [(0, .ref (G.1 + 80)), (2, .int q.1), (3, .int q.2.1), (4, .int q.2.2.1), (5, .ref (G.1 + q.2.2.2.1)), (6, .ref (G.1 + q.2.2.2.2.1)), (7, .long q.2.2.2.2.2.1), (9, .int q.2.2.2.2.2.2.1)] [] q.2.2.2.2.2.2.2
def O_Drift_chance_29 (G : jG) (X : jX) (t : ((Int32 × Int32 × Int32 × Nat × Nat × Int64 × Int32 × Hp) ⊕ (Int32 × Hp))) : Prop := Sum.elim (P_Drift_chance_29 G X) (O_Drift_chance G X) t
def P_Drift_chance_72 (G : jG) (X : jX) (q : Int32 × Int32 × Int32 × Nat × Nat × Int64 × Int32 × Int32 × Hp) : Prop := J G X 72 [(0, .ref (G.1 + 80)), (2, .int q.1), (3, .int q.2.1), (4, .int q.2.2.1), (5, .ref (G.1 + q.2.2.2.1)), (6, .ref (G.1 + q.2.2.2.2.1)), (7, .long q.2.2.2.2.2.1), (9, .int q.2.2.2.2.2.2.1), (10, .int q.2.2.2.2.2.2.2.1)] [] q.2.2.2.2.2.2.2.2
def O_Drift_chance_72 (G : jG) (X : jX) (t : ((Int32 × Int32 × Int32 × Nat × Nat × Int64 × Int32 × Int32 × Hp) ⊕ ((Int32 × Int32 × Int32 × Nat × Nat × Int64 × Int32 × Hp) ⊕ (Int32 × Hp)))) : Prop := Sum.elim (P_Drift_chance_72 G X) (O_Drift_chance_29 G X) t
theorem w_Drift_chance_109 {G : jG} {X : jX} (C : jC G X cX0_chance 11 RX0 4 144) {v2 : Int32} {v3 : Int32} {v4 : Int32} {v5 : Nat} {v6 : Nat} {v7 : Int64} {v9 : Int32} {v10 : Int32} {h : Hp} {out : ((Int32 × Int32 × Int32 × Nat × Nat × Int64 × Int32 × Int32 × Hp) ⊕ ((Int32 × Int32 × Int32 × Nat × Nat × Int64 × Int32 × Hp) ⊕ (Int32 × Hp)))} (O : (O_Drift_chance_72 G X) out) (hm : s_Drift_chance_109 v2 v3 v4 v5 v6 v7 v9 v10 h = some out) : J G X 109 [(0, .ref (G.1 + 80)), (2, .int v2), (3, .int v3), (4, .int v4), (5, .ref (G.1 + v5)), (6, .ref (G.1 + v6)), (7, .long v7), (9, .int v9), (10, .int v10)] [] h := by
  unfold s_Drift_chance_109 at hm
  refine j_iinc C 8 [(10, .int (v10 + (1 : Int32))), (0, .ref (G.1 + 80)), (2, .int v2), (3, .int v3), (4, .int v4), (5, .ref (G.1 + v5)), (6, .ref (G.1 + v6)), (7, .long v7), (9, .int v9)] dX0_chance_109 rfl (add_lit (by decide)) (by decide) rfl ?_
  refine j_goto C 72 dX0_chance_112 (by decide) ?_
  obtain rfl := Option.some.inj hm
  refine j_sub (L' := [(0, .ref (G.1 + 80)), (2, .int v2), (3, .int v3), (4, .int v4), (5, .ref (G.1 + v5)), (6, .ref (G.1 + v6)), (7, .long v7), (9, .int v9), (10, .int (v10 + (1 : Int32)))]) [1, 2, 3, 4, 5, 6, 7, 8, 0] rfl ?_
  exact O
theorem w_Drift_chance_72 {G : jG} {X : jX} (C : jC G X cX0_chance 11 RX0 4 144) {v2 : Int32} {v3 : Int32} {v4 : Int32} {v5 : Nat} {v6 : Nat} {v7 : Int64} {v9 : Int32} {v10 : Int32} {h : Hp} {out : ((Int32 × Int32 × Int32 × Nat × Nat × Int64 × Int32 × Int32 × Hp) ⊕ ((Int32 × Int32 × Int32 × Nat × Nat × Int64 × Int32 × Hp) ⊕ (Int32 × Hp)))} (O : (O_Drift_chance_72 G X) out) (hm : s_Drift_chance_72 v2 v3 v4 v5 v6 v7 v9 v10 h = some out) : J G X 72 [(0, .ref (G.1 + 80)), (2, .int v2), (3, .int v3), (4, .int v4), (5, .ref (G.1 + v5)), (6, .ref (G.1 + v6)), (7, .long v7), (9, .int v9), (10, .int v10)] [] h := by
  unfold s_Drift_chance_72 at hm
  refine j_iload C 8 dX0_chance_72 rfl ?_
  refine j_bipush C 50 dX0_chance_74 (by decide) ?_
  refine j_if_icmpge C 115 dX0_chance_76 (by decide) hm (fun hm => ?_) (fun hm => ?_)
  · refine j_lload C 6 dX0_chance_115 rfl ?_
    refine j_ldc2 C wd_1269 dX0_chance_117 ?_
    refine j_lmul C dX0_chance_120 ?_
    refine j_lstore C [(7, .long (v7 * ((200 : Int64)))), (0, .ref (G.1 + 80)), (2, .int v2), (3, .int v3), (4, .int v4), (5, .ref (G.1 + v5)), (6, .ref (G.1 + v6)), (9, .int v9), (10, .int v10)] dX0_chance_121 (by decide) rfl ?_
    refine j_aload C 5 dX0_chance_123 rfl ?_
    refine j_astore C [(10, .ref (G.1 + v5)), (7, .long (v7 * ((200 : Int64)))), (0, .ref (G.1 + 80)), (2, .int v2), (3, .int v3), (4, .int v4), (5, .ref (G.1 + v5)), (6, .ref (G.1 + v6)), (9, .int v9)] dX0_chance_125 (by decide) rfl ?_
    refine j_aload C 7 dX0_chance_127 rfl ?_
    refine j_astore C [(5, .ref (G.1 + v6)), (10, .ref (G.1 + v5)), (7, .long (v7 * ((200 : Int64)))), (0, .ref (G.1 + 80)), (2, .int v2), (3, .int v3), (4, .int v4), (6, .ref (G.1 + v6)), (9, .int v9)] dX0_chance_129 (by decide) rfl ?_
    refine j_aload C 1 dX0_chance_131 rfl ?_
    refine j_astore C [(6, .ref (G.1 + v5)), (5, .ref (G.1 + v6)), (10, .ref (G.1 + v5)), (7, .long (v7 * ((200 : Int64)))), (0, .ref (G.1 + 80)), (2, .int v2), (3, .int v3), (4, .int v4), (9, .int v9)] dX0_chance_133 (by decide) rfl ?_
    refine j_iinc C 8 [(9, .int (v9 + (1 : Int32))), (6, .ref (G.1 + v5)), (5, .ref (G.1 + v6)), (10, .ref (G.1 + v5)), (7, .long (v7 * ((200 : Int64)))), (0, .ref (G.1 + 80)), (2, .int v2), (3, .int v3), (4, .int v4)] dX0_chance_135 rfl (add_lit (by decide)) (by decide) rfl ?_
    refine j_goto C 29 dX0_chance_138 (by decide) ?_
    obtain rfl := Option.some.inj hm
    refine j_sub (L' := [(0, .ref (G.1 + 80)), (2, .int v2), (3, .int v3), (4, .int v4), (5, .ref (G.1 + v6)), (6, .ref (G.1 + v5)), (7, .long (v7 * ((200 : Int64)))), (9, .int (v9 + (1 : Int32)))]) [5, 6, 7, 8, 2, 1, 4, 0] rfl ?_
    exact O
  · refine j_aload C 4 dX0_chance_79 rfl ?_
    refine j_iload C 8 dX0_chance_81 rfl ?_
    obtain ⟨c1, hm⟩ := ak_inv hm
    refine j_lald C c1 hm dX0_chance_83 (fun hm => ?_)
    refine j_lconst C 0 dX0_chance_84 (by decide) ?_
    refine j_lcmp C dX0_chance_85 ?_
    refine j_ifeq C 109 dX0_chance_86 (by decide) hm (fun hm => ?_) (fun hm => ?_)
    · refine j_sub (L' := [(0, .ref (G.1 + 80)), (2, .int v2), (3, .int v3), (4, .int v4), (5, .ref (G.1 + v5)), (6, .ref (G.1 + v6)), (7, .long v7), (9, .int v9), (10, .int v10)]) [0, 1, 2, 3, 4, 5, 6, 7, 8] rfl ?_
      exact w_Drift_chance_109 C O hm
    · refine j_aload_n C 0 dX0_chance_89 rfl rfl ?_
      refine j_aload C 4 dX0_chance_90 rfl ?_
      refine j_iload C 8 dX0_chance_92 rfl ?_
      obtain ⟨c2, hm⟩ := ak_inv hm
      refine j_lald C c2 hm dX0_chance_94 (fun hm => ?_)
      refine j_iload C 8 dX0_chance_95 rfl ?_
      refine j_iload_n C 1 dX0_chance_97 rfl rfl ?_
      refine j_iload C 7 dX0_chance_98 rfl ?_
      refine j_iadd C dX0_chance_100 ?_
      refine j_bipush C 10 dX0_chance_101 (by decide) ?_
      refine j_imul C dX0_chance_103 ?_
      refine j_aload C 5 dX0_chance_104 rfl ?_
      refine j_cV C l_X0_34 [.long (hL h v5 (ix v10)), .int v10, .int ((v2 + v9) * ((10 : Int32))), .ref (G.1 + v6)] [] (fun _ => none) (fun u3 => u3) (fun u3 => []) n_80 hm (fun l u hu => c_Drift_spread hu) rfl (Nat.le_of_ble_eq_true rfl) rfl (Nat.le_of_ble_eq_true rfl) (Nat.le_of_ble_eq_true rfl) (fun _ => rfl) dX0_chance_106 (fun u3 hm => ?_)
      refine j_sub (L' := [(0, .ref (G.1 + 80)), (2, .int v2), (3, .int v3), (4, .int v4), (5, .ref (G.1 + v5)), (6, .ref (G.1 + v6)), (7, .long v7), (9, .int v9), (10, .int v10)]) [0, 1, 2, 3, 4, 5, 6, 7, 8] rfl ?_
      exact w_Drift_chance_109 C O hm
theorem k_Drift_chance_72 {G : jG} {X : jX} (C : jC G X cX0_chance 11 RX0 4 144) {v2 : Int32} {v3 : Int32} {v4 : Int32} {v5 : Nat} {v6 : Nat} {v7 : Int64} {v9 : Int32} {v10 : Int32} {h : Hp} {out : ((Int32 × Int32 × Int32 × Nat × Nat × Int64 × Int32 × Hp) ⊕ (Int32 × Hp))} (O : (O_Drift_chance_29 G X) out) (hm : lp (fun q => s_Drift_chance_72 q.1 q.2.1 q.2.2.1 q.2.2.2.1 q.2.2.2.2.1 q.2.2.2.2.2.1 q.2.2.2.2.2.2.1 q.2.2.2.2.2.2.2.1 q.2.2.2.2.2.2.2.2) (v2, v3, v4, v5, v6, v7, v9, v10, h) = some out) : J G X 72 [(0, .ref (G.1 + 80)), (2, .int v2), (3, .int v3), (4, .int v4), (5, .ref (G.1 + v5)), (6, .ref (G.1 + v6)), (7, .long v7), (9, .int v9), (10, .int v10)] [] h :=
  lp_ok (P := P_Drift_chance_72 G X) (O := (O_Drift_chance_29 G X)) (fun q r hm O => w_Drift_chance_72 C O hm) hm O
theorem w_Drift_chance_177 {G : jG} {X : jX} (C : jC G X cX0_chance 11 RX0 4 144) {s0 : Int64} {h : Hp} {out : (Int32 × Hp)} (O : (O_Drift_chance G X) out) (hm : s_Drift_chance_177 s0 h = some out) : J G X 177 [] [.long s0] h := by
  unfold s_Drift_chance_177 at hm
  refine j_lstore C [(9, .long s0)] dX0_chance_177 (by decide) rfl ?_
  refine j_lload C 0 dX0_chance_179 rfl ?_
  refine j_l2i C dX0_chance_181 ?_
  obtain rfl := Option.some.inj hm
  exact j_iret C O dX0_chance_182
theorem w_Drift_chance_29 {G : jG} {X : jX} (C : jC G X cX0_chance 11 RX0 4 144) {v2 : Int32} {v3 : Int32} {v4 : Int32} {v5 : Nat} {v6 : Nat} {v7 : Int64} {v9 : Int32} {h : Hp} {out : ((Int32 × Int32 × Int32 × Nat × Nat × Int64 × Int32 × Hp) ⊕ (Int32 × Hp))} (O : (O_Drift_chance_29 G X) out) (hm : s_Drift_chance_29 v2 v3 v4 v5 v6 v7 v9 h = some out) : J G X 29 [(0, .ref (G.1 + 80)), (2, .int v2), (3, .int v3), (4, .int v4), (5, .ref (G.1 + v5)), (6, .ref (G.1 + v6)), (7, .long v7), (9, .int v9)] [] h := by
  unfold s_Drift_chance_29 at hm
  refine j_iload C 7 dX0_chance_29 rfl ?_
  refine j_iload_n C 2 dX0_chance_31 rfl rfl ?_
  refine j_if_icmpge C 141 dX0_chance_32 (by decide) hm (fun hm => ?_) (fun hm => ?_)
  · refine j_lload C 6 dX0_chance_141 rfl ?_
    refine j_ldc2 C wd_1283 dX0_chance_143 ?_
    refine j_lcmp C dX0_chance_146 ?_
    refine j_ifgt C 165 dX0_chance_147 (by decide) hm (fun hm => ?_) (fun hm => ?_)
    · refine j_aload C 4 dX0_chance_165 rfl ?_
      refine j_iload C 3 dX0_chance_167 rfl ?_
      obtain ⟨c1, hm⟩ := ak_inv hm
      refine j_lald C c1 hm dX0_chance_169 (fun hm => ?_)
      refine j_lload C 6 dX0_chance_170 rfl ?_
      refine j_ldc2 C wd_1283 dX0_chance_172 ?_
      refine j_ldiv C dX0_chance_175 (by decide) ?_
      obtain ⟨c2, hm⟩ := cnL_inv hm
      refine j_ldiv C dX0_chance_176 c2 ?_
      obtain ⟨o_0, hm_0, rfl⟩ := inr_inv hm
      refine j_sub (L' := []) [] rfl ?_
      exact w_Drift_chance_177 C O hm_0
    · refine j_aload C 4 dX0_chance_150 rfl ?_
      refine j_iload C 3 dX0_chance_152 rfl ?_
      obtain ⟨c3, hm⟩ := ak_inv hm
      refine j_lald C c3 hm dX0_chance_154 (fun hm => ?_)
      refine j_ldc2 C wd_1283 dX0_chance_155 ?_
      refine j_lload C 6 dX0_chance_158 rfl ?_
      obtain ⟨c4, hm⟩ := cnL_inv hm
      refine j_ldiv C dX0_chance_160 c4 ?_
      refine j_lmul C dX0_chance_161 ?_
      refine j_goto C 177 dX0_chance_162 (by decide) ?_
      obtain ⟨o_0, hm_0, rfl⟩ := inr_inv hm
      refine j_sub (L' := []) [] rfl ?_
      exact w_Drift_chance_177 C O hm_0
  · refine j_aload C 5 dX0_chance_35 rfl ?_
    refine j_lconst C 0 dX0_chance_37 (by decide) ?_
    refine j_cS C l_X0_26 [.ref (G.1 + v6), .long ((0 : Int64))] [] (fun _ => none) (fun u5 => u5) (fun u5 => []) hm (fun l u hu => c_Arr_fillL hu) rfl (Nat.le_of_ble_eq_true rfl) rfl (Nat.le_of_ble_eq_true rfl) (Nat.le_of_ble_eq_true rfl) (fun _ => rfl) dX0_chance_38 (fun u5 hm => ?_)
    refine j_aload C 5 dX0_chance_41 rfl ?_
    refine j_bipush C 50 dX0_chance_43 (by decide) ?_
    refine j_aload C 4 dX0_chance_45 rfl ?_
    refine j_bipush C 50 dX0_chance_47 (by decide) ?_
    obtain ⟨c6, hm⟩ := ak_inv hm
    refine j_lald C c6 hm dX0_chance_49 (fun hm => ?_)
    refine j_ldc2 C wd_1269 dX0_chance_50 ?_
    refine j_lmul C dX0_chance_53 ?_
    obtain ⟨c7, hm⟩ := ak_inv hm
    refine j_last C c7 hm dX0_chance_54 (fun hm => ?_)
    refine j_aload C 5 dX0_chance_55 rfl ?_
    refine j_bipush C 51 dX0_chance_57 (by decide) ?_
    refine j_aload C 4 dX0_chance_59 rfl ?_
    refine j_bipush C 51 dX0_chance_61 (by decide) ?_
    refine j_nmH hm (fun h8 hm => ?_)
    obtain ⟨c9, hm⟩ := ak_inv hm
    refine j_lald C c9 hm dX0_chance_63 (fun hm => ?_)
    refine j_ldc2 C wd_1269 dX0_chance_64 ?_
    refine j_lmul C dX0_chance_67 ?_
    obtain ⟨c10, hm⟩ := ak_inv hm
    refine j_last C c10 hm dX0_chance_68 (fun hm => ?_)
    refine j_iconst C 0 dX0_chance_69 (by decide) ?_
    refine j_istore C [(10, .int ((0 : Int32))), (0, .ref (G.1 + 80)), (2, .int v2), (3, .int v3), (4, .int v4), (5, .ref (G.1 + v5)), (6, .ref (G.1 + v6)), (7, .long v7), (9, .int v9)] dX0_chance_70 (by decide) rfl ?_
    refine j_sub (L' := [(0, .ref (G.1 + 80)), (2, .int v2), (3, .int v3), (4, .int v4), (5, .ref (G.1 + v5)), (6, .ref (G.1 + v6)), (7, .long v7), (9, .int v9), (10, .int ((0 : Int32)))]) [1, 2, 3, 4, 5, 6, 7, 8, 0] rfl ?_
    exact k_Drift_chance_72 C O hm
theorem k_Drift_chance_29 {G : jG} {X : jX} (C : jC G X cX0_chance 11 RX0 4 144) {v2 : Int32} {v3 : Int32} {v4 : Int32} {v5 : Nat} {v6 : Nat} {v7 : Int64} {v9 : Int32} {h : Hp} {out : (Int32 × Hp)} (O : (O_Drift_chance G X) out) (hm : lp (fun q => s_Drift_chance_29 q.1 q.2.1 q.2.2.1 q.2.2.2.1 q.2.2.2.2.1 q.2.2.2.2.2.1 q.2.2.2.2.2.2.1 q.2.2.2.2.2.2.2) (v2, v3, v4, v5, v6, v7, v9, h) = some out) : J G X 29 [(0, .ref (G.1 + 80)), (2, .int v2), (3, .int v3), (4, .int v4), (5, .ref (G.1 + v5)), (6, .ref (G.1 + v6)), (7, .long v7), (9, .int v9)] [] h :=
  lp_ok (P := P_Drift_chance_29 G X) (O := (O_Drift_chance G X)) (fun q r hm O => w_Drift_chance_29 C O hm) hm O
theorem w_Drift_chance {G : jG} {X : jX} (C : jC G X cX0_chance 11 RX0 4 144) {v1 : Int32} {v2 : Int32} {v3 : Int32} {v4 : Int32} {h : Hp} {out : (Int32 × Hp)} (O : (O_Drift_chance G X) out) (hm : s_Drift_chance v1 v2 v3 v4 h = some out) : J G X 0 [(0, .ref (G.1 + 80)), (1, .int v1), (2, .int v2), (3, .int v3), (4, .int v4)] [] h := by
  unfold s_Drift_chance at hm
  refine j_aload_n C 0 dX0_chance_0 rfl rfl ?_
  refine j_gS C f_X0_11 n_80 q_80_2 dX0_chance_1 ?_
  refine j_astore C [(5, .ref (G.1 + 81)), (0, .ref (G.1 + 80)), (1, .int v1), (2, .int v2), (3, .int v3), (4, .int v4)] dX0_chance_4 (by decide) rfl ?_
  refine j_aload_n C 1 dX0_chance_6 rfl rfl ?_
  refine j_gS C f_X0_15 n_80 q_80_3 dX0_chance_7 ?_
  refine j_astore C [(6, .ref (G.1 + 82)), (5, .ref (G.1 + 81)), (0, .ref (G.1 + 80)), (1, .int v1), (2, .int v2), (3, .int v3), (4, .int v4)] dX0_chance_10 (by decide) rfl ?_
  refine j_aload C 1 dX0_chance_12 rfl ?_
  refine j_lconst C 0 dX0_chance_14 (by decide) ?_
  refine j_cS C l_X0_26 [.ref (G.1 + 81), .long ((0 : Int64))] [] (fun _ => none) (fun u1 => u1) (fun u1 => []) hm (fun l u hu => c_Arr_fillL hu) rfl (Nat.le_of_ble_eq_true rfl) rfl (Nat.le_of_ble_eq_true rfl) (Nat.le_of_ble_eq_true rfl) (fun _ => rfl) dX0_chance_15 (fun u1 hm => ?_)
  refine j_aload C 1 dX0_chance_18 rfl ?_
  refine j_iload_n C 3 dX0_chance_20 rfl rfl ?_
  refine j_lconst C 1 dX0_chance_21 (by decide) ?_
  refine j_last C n_81 hm dX0_chance_22 (fun hm => ?_)
  refine j_lconst C 1 dX0_chance_23 (by decide) ?_
  refine j_lstore C [(7, .long ((1 : Int64))), (6, .ref (G.1 + 82)), (5, .ref (G.1 + 81)), (0, .ref (G.1 + 80)), (1, .int v1), (2, .int v2), (3, .int v3), (4, .int v4)] dX0_chance_24 (by decide) rfl ?_
  refine j_iconst C 0 dX0_chance_26 (by decide) ?_
  refine j_istore C [(9, .int ((0 : Int32))), (7, .long ((1 : Int64))), (6, .ref (G.1 + 82)), (5, .ref (G.1 + 81)), (0, .ref (G.1 + 80)), (1, .int v1), (2, .int v2), (3, .int v3), (4, .int v4)] dX0_chance_27 (by decide) rfl ?_
  refine j_sub (L' := [(0, .ref (G.1 + 80)), (2, .int v2), (3, .int v3), (4, .int v4), (5, .ref (G.1 + 81)), (6, .ref (G.1 + 82)), (7, .long ((1 : Int64))), (9, .int ((0 : Int32)))]) [4, 6, 7, 8, 3, 2, 1, 0] rfl ?_
  exact k_Drift_chance_29 C O hm
theorem c_Drift_chance {G : jG} {l : Launch} {v1 : Int32} {v2 : Int32} {v3 : Int32} {v4 : Int32} {h : Hp} {out : (Int32 × Hp)} (hm : s_Drift_chance v1 v2 v3 v4 h = some out) : mt G l yX0_chance cX0_chance 11 (some .int) 4 144 [.ref (G.1 + 80), .int v1, .int v2, .int v3, .int v4] h (some (.int out.1)) out.2 :=
  mt_of (by decide) (Nat.le_of_ble_eq_true rfl) _ rfl (fun X I C O => w_Drift_chance C O hm)
noncomputable def s_Law_init (v0 : Nat) (v1 : Nat) (v2 : Nat) (h : Hp) : Option Hp :=
  ak h v0 101 <| ak (sR h v0 0 (some v1)) v0 101 <| some (sR (sR h v0 0 (some v1)) v0 1 (some v2))
def O_Law_init (G : jG) (X : jX) (out : Hp) : Prop := jO G X (none) none out
theorem w_Law_init {G : jG} {X : jX} (C : jC G X cX1_init 3 RX1 1 70) (I : ∀ Y, X.2 = some Y → (xM Y).name = "<init>") {v0 : Nat} {v1 : Nat} {v2 : Nat} {h : Hp} {out : Hp} (O : (O_Law_init G X) out) (hm : s_Law_init v0 v1 v2 h = some out) : J G X 0 [(0, .ref (G.1 + v0)), (1, .ref (G.1 + v1)), (2, .ref (G.1 + v2))] [] h := by
  unfold s_Law_init at hm
  refine j_aload_n C 0 dX1_init_0 rfl rfl ?_
  refine j_obj C wd_848 wd_135 wd_136 (Nat.le_of_ble_eq_true rfl) (Nat.le_of_ble_eq_true rfl) dX1_init_1 ?_
  refine j_aload_n C 0 dX1_init_4 rfl rfl ?_
  refine j_aload_n C 1 dX1_init_5 rfl rfl ?_
  obtain ⟨c1, hm⟩ := ak_inv hm
  refine j_pF C I (o := (some v1)) f_X1_7 ⟨_, _, _, rfl, rfl⟩ c1 (rs_law c1 0) dX1_init_6 ?_
  refine j_aload_n C 0 dX1_init_9 rfl rfl ?_
  refine j_aload_n C 2 dX1_init_10 rfl rfl ?_
  obtain ⟨c2, hm⟩ := ak_inv hm
  refine j_pF C I (o := (some v2)) f_X1_13 ⟨_, _, _, rfl, rfl⟩ c2 (rs_law c2 1) dX1_init_11 ?_
  obtain rfl := Option.some.inj hm
  exact j_vret C O dX1_init_14
theorem c_Law_init {G : jG} {l : Launch} {v0 : Nat} {v1 : Nat} {v2 : Nat} {h : Hp} {out : Hp} (hm : s_Law_init v0 v1 v2 h = some out) : mt G l yX1_init cX1_init 3 (none) 1 70 [.ref (G.1 + v0), .ref (G.1 + v1), .ref (G.1 + v2)] h none out :=
  mt_of (by decide) (Nat.le_of_ble_eq_true rfl) _ rfl (fun X I C O => w_Law_init C I O hm)
noncomputable def s_Locks_findBegins_63 (v1 : Int32) (v2 : Int32) (v3 : Int32) (v4 : Int32) (h : Hp) : Option ((Int32 × Int32 × Int32 × Int32 × Hp) ⊕ Hp) :=
  nn (hR h 69 2) fun r1 => ak h r1 0 <| ib ((v1 * ((1440 : Int32))) + v4) (ln h r1) <| some (.inl (v1, v2, v3, (v4 + (-1 : Int32)), (sI h r1 (ix ((v1 * ((1440 : Int32))) + v4)) v3)))
noncomputable def s_Locks_findBegins_46 (v1 : Int32) (v3 : Int32) (v4 : Int32) (s0 : Int32) (h : Hp) : Option ((Int32 × Int32 × Int32 × Int32 × Hp) ⊕ Hp) :=
  ib v1 6 <| if s0 < (hI h 11 (ix v1)) then
    s_Locks_findBegins_63 v1 s0 v3 v4 h
  else
    s_Locks_findBegins_63 v1 s0 v4 v4 h
noncomputable def s_Locks_findBegins_9 (v1 : Int32) (v2 : Int32) (v3 : Int32) (v4 : Int32) (h : Hp) : Option ((Int32 × Int32 × Int32 × Int32 × Hp) ⊕ Hp) :=
  if v4 < 0 then
    some (.inr h)
  else
    ib v4 1440 <| ib v1 6 <| if (hI h 12 (ix v1)) < (z_abs (hI h 57 (ix v4))) then
      s_Locks_findBegins_46 v1 v3 v4 ((0 : Int32)) h
    else
      s_Locks_findBegins_46 v1 v3 v4 (v2 + ((1 : Int32))) h
noncomputable def s_Locks_findBegins (v1 : Int32) (h : Hp) : Option Hp :=
  lp (fun q => s_Locks_findBegins_9 q.1 q.2.1 q.2.2.1 q.2.2.2.1 q.2.2.2.2) (v1, ((0 : Int32)), ((-1 : Int32)), ((1439 : Int32)), h)
def O_Locks_findBegins (G : jG) (X : jX) (out : Hp) : Prop := jO G X (none) none out
def P_Locks_findBegins_9 (G : jG) (X : jX) (q : Int32 × Int32 × Int32 × Int32 × Hp) : Prop := J G X 9 [(0, .ref (G.1 + 69)), (1, .int q.1), (2, .int q.2.1), (3, .int q.2.2.1), (4, .int q.2.2.2.1)] [] q.2.2.2.2
def O_Locks_findBegins_9 (G : jG) (X : jX) (t : ((Int32 × Int32 × Int32 × Int32 × Hp) ⊕ Hp)) : Prop := Sum.elim (P_Locks_findBegins_9 G X) (O_Locks_findBegins G X) t
theorem w_Locks_findBegins_63 {G : jG} {X : jX} (C : jC G X cX2_findBegins 5 RX2 1 70) {v1 : Int32} {v2 : Int32} {v3 : Int32} {v4 : Int32} {h : Hp} {out : ((Int32 × Int32 × Int32 × Int32 × Hp) ⊕ Hp)} (O : (O_Locks_findBegins_9 G X) out) (hm : s_Locks_findBegins_63 v1 v2 v3 v4 h = some out) : J G X 63 [(0, .ref (G.1 + 69)), (1, .int v1), (2, .int v2), (3, .int v3), (4, .int v4)] [] h := by
  unfold s_Locks_findBegins_63 at hm
  refine j_aload_n C 0 dX2_findBegins_63 rfl rfl ?_
  refine j_gR C f_X2_9 n_69 q_69_2 dX2_findBegins_64 ?_
  refine j_iload_n C 1 dX2_findBegins_67 rfl rfl ?_
  refine j_sipush C 1440 dX2_findBegins_68 (by decide) ?_
  refine j_imul C dX2_findBegins_71 ?_
  refine j_iload C 4 dX2_findBegins_72 rfl ?_
  refine j_iadd C dX2_findBegins_74 ?_
  refine j_iload_n C 3 dX2_findBegins_75 rfl rfl ?_
  obtain ⟨r1, c2, hm⟩ := nn_inv hm
  rw [c2]
  change J G X _ _ _ _
  obtain ⟨c3, hm⟩ := ak_inv hm
  refine j_iast C c3 hm dX2_findBegins_76 (fun hm => ?_)
  refine j_iinc C 4 [(4, .int (v4 + (-1 : Int32))), (0, .ref (G.1 + 69)), (1, .int v1), (2, .int v2), (3, .int v3)] dX2_findBegins_77 rfl (add_lit (by decide)) (by decide) rfl ?_
  refine j_goto C 9 dX2_findBegins_80 (by decide) ?_
  obtain rfl := Option.some.inj hm
  refine j_sub (L' := [(0, .ref (G.1 + 69)), (1, .int v1), (2, .int v2), (3, .int v3), (4, .int (v4 + (-1 : Int32)))]) [1, 2, 3, 4, 0] rfl ?_
  exact O
theorem w_Locks_findBegins_46 {G : jG} {X : jX} (C : jC G X cX2_findBegins 5 RX2 1 70) {v1 : Int32} {v3 : Int32} {v4 : Int32} {s0 : Int32} {h : Hp} {out : ((Int32 × Int32 × Int32 × Int32 × Hp) ⊕ Hp)} (O : (O_Locks_findBegins_9 G X) out) (hm : s_Locks_findBegins_46 v1 v3 v4 s0 h = some out) : J G X 46 [(0, .ref (G.1 + 69)), (1, .int v1), (3, .int v3), (4, .int v4)] [.int s0] h := by
  unfold s_Locks_findBegins_46 at hm
  refine j_istore_n C [(2, .int s0), (0, .ref (G.1 + 69)), (1, .int v1), (3, .int v3), (4, .int v4)] dX2_findBegins_46 rfl (by decide) rfl ?_
  refine j_iload_n C 0 dX2_findBegins_47 rfl rfl ?_
  refine j_aload_n C 1 dX2_findBegins_48 rfl rfl ?_
  refine j_gS C f_X2_35 n_69 q_69_0 dX2_findBegins_49 ?_
  refine j_gS C f_X2_70 n_1 q_1_9 dX2_findBegins_52 ?_
  refine j_iload_n C 2 dX2_findBegins_55 rfl rfl ?_
  refine j_iald C n_11 hm dX2_findBegins_56 (fun hm => ?_)
  refine j_if_icmplt C 63 dX2_findBegins_57 (by decide) hm (fun hm => ?_) (fun hm => ?_)
  · refine j_sub (L' := [(0, .ref (G.1 + 69)), (1, .int v1), (2, .int s0), (3, .int v3), (4, .int v4)]) [1, 2, 0, 3, 4] rfl ?_
    exact w_Locks_findBegins_63 C O hm
  · refine j_iload C 4 dX2_findBegins_60 rfl ?_
    refine j_istore_n C [(3, .int v4), (2, .int s0), (0, .ref (G.1 + 69)), (1, .int v1), (4, .int v4)] dX2_findBegins_62 rfl (by decide) rfl ?_
    refine j_sub (L' := [(0, .ref (G.1 + 69)), (1, .int v1), (2, .int s0), (3, .int v4), (4, .int v4)]) [2, 3, 1, 0, 4] rfl ?_
    exact w_Locks_findBegins_63 C O hm
theorem w_Locks_findBegins_9 {G : jG} {X : jX} (C : jC G X cX2_findBegins 5 RX2 1 70) {v1 : Int32} {v2 : Int32} {v3 : Int32} {v4 : Int32} {h : Hp} {out : ((Int32 × Int32 × Int32 × Int32 × Hp) ⊕ Hp)} (O : (O_Locks_findBegins_9 G X) out) (hm : s_Locks_findBegins_9 v1 v2 v3 v4 h = some out) : J G X 9 [(0, .ref (G.1 + 69)), (1, .int v1), (2, .int v2), (3, .int v3), (4, .int v4)] [] h := by
  unfold s_Locks_findBegins_9 at hm
  refine j_iload C 4 dX2_findBegins_9 rfl ?_
  refine j_iflt C 83 dX2_findBegins_11 (by decide) hm (fun hm => ?_) (fun hm => ?_)
  · obtain rfl := Option.some.inj hm
    exact j_vret C O dX2_findBegins_83
  · refine j_aload_n C 0 dX2_findBegins_14 rfl rfl ?_
    refine j_gS C f_X2_39 n_69 q_69_1 dX2_findBegins_15 ?_
    refine j_gS C f_X2_56 n_50 q_50_5 dX2_findBegins_18 ?_
    refine j_iload C 4 dX2_findBegins_21 rfl ?_
    refine j_iald C n_57 hm dX2_findBegins_23 (fun hm => ?_)
    refine j_mabs C wd_1152 wd_942 wd_126 wd_943 (Nat.le_of_ble_eq_true rfl) (Nat.le_of_ble_eq_true rfl) dX2_findBegins_24 ?_
    refine j_aload_n C 0 dX2_findBegins_27 rfl rfl ?_
    refine j_gS C f_X2_35 n_69 q_69_0 dX2_findBegins_28 ?_
    refine j_gS C f_X2_67 n_1 q_1_10 dX2_findBegins_31 ?_
    refine j_iload_n C 1 dX2_findBegins_34 rfl rfl ?_
    refine j_iald C n_12 hm dX2_findBegins_35 (fun hm => ?_)
    refine j_if_icmpgt C 45 dX2_findBegins_36 (by decide) hm (fun hm => ?_) (fun hm => ?_)
    · refine j_iconst C 0 dX2_findBegins_45 (by decide) ?_
      refine j_sub (L' := [(0, .ref (G.1 + 69)), (1, .int v1), (3, .int v3), (4, .int v4)]) [0, 1, 3, 4] rfl ?_
      exact w_Locks_findBegins_46 C O hm
    · refine j_iload_n C 2 dX2_findBegins_39 rfl rfl ?_
      refine j_iconst C 1 dX2_findBegins_40 (by decide) ?_
      refine j_iadd C dX2_findBegins_41 ?_
      refine j_goto C 46 dX2_findBegins_42 (by decide) ?_
      refine j_sub (L' := [(0, .ref (G.1 + 69)), (1, .int v1), (3, .int v3), (4, .int v4)]) [0, 1, 3, 4] rfl ?_
      exact w_Locks_findBegins_46 C O hm
theorem k_Locks_findBegins_9 {G : jG} {X : jX} (C : jC G X cX2_findBegins 5 RX2 1 70) {v1 : Int32} {v2 : Int32} {v3 : Int32} {v4 : Int32} {h : Hp} {out : Hp} (O : (O_Locks_findBegins G X) out) (hm : lp (fun q => s_Locks_findBegins_9 q.1 q.2.1 q.2.2.1 q.2.2.2.1 q.2.2.2.2) (v1, v2, v3, v4, h) = some out) : J G X 9 [(0, .ref (G.1 + 69)), (1, .int v1), (2, .int v2), (3, .int v3), (4, .int v4)] [] h :=
  lp_ok (P := P_Locks_findBegins_9 G X) (O := (O_Locks_findBegins G X)) (fun q r hm O => w_Locks_findBegins_9 C O hm) hm O
theorem w_Locks_findBegins {G : jG} {X : jX} (C : jC G X cX2_findBegins 5 RX2 1 70) {v1 : Int32} {h : Hp} {out : Hp} (O : (O_Locks_findBegins G X) out) (hm : s_Locks_findBegins v1 h = some out) : J G X 0 [(0, .ref (G.1 + 69)), (1, .int v1)] [] h := by
  unfold s_Locks_findBegins at hm
  refine j_iconst C 0 dX2_findBegins_0 (by decide) ?_
  refine j_istore_n C [(2, .int ((0 : Int32))), (0, .ref (G.1 + 69)), (1, .int v1)] dX2_findBegins_1 rfl (by decide) rfl ?_
  refine j_iconst C (-1 : Int32) dX2_findBegins_2 (by decide) ?_
  refine j_istore_n C [(3, .int ((-1 : Int32))), (2, .int ((0 : Int32))), (0, .ref (G.1 + 69)), (1, .int v1)] dX2_findBegins_3 rfl (by decide) rfl ?_
  refine j_sipush C 1439 dX2_findBegins_4 (by decide) ?_
  refine j_istore C [(4, .int ((1439 : Int32))), (3, .int ((-1 : Int32))), (2, .int ((0 : Int32))), (0, .ref (G.1 + 69)), (1, .int v1)] dX2_findBegins_7 (by decide) rfl ?_
  refine j_sub (L' := [(0, .ref (G.1 + 69)), (1, .int v1), (2, .int ((0 : Int32))), (3, .int ((-1 : Int32))), (4, .int ((1439 : Int32)))]) [3, 4, 2, 1, 0] rfl ?_
  exact k_Locks_findBegins_9 C O hm
theorem c_Locks_findBegins {G : jG} {l : Launch} {v1 : Int32} {h : Hp} {out : Hp} (hm : s_Locks_findBegins v1 h = some out) : mt G l yX2_findBegins cX2_findBegins 5 (none) 1 70 [.ref (G.1 + 69), .int v1] h none out :=
  mt_of (by decide) (Nat.le_of_ble_eq_true rfl) _ rfl (fun X I C O => w_Locks_findBegins C O hm)
