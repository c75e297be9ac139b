noncomputable def s_Arr_fillL_6 (v0 : Nat) (v1 : Int64) (v3 : Int32) (v4 : Int32) (h : Hp) : Option ((Nat × Int64 × Int32 × Int32 × Hp) ⊕ Hp) :=
  if v4 ≤ v3 then
    some (.inr h)
  else
    ak h v0 1 <| ib v3 (ln h v0) <| some (.inl (v0, v1, (v3 + (1 : Int32)), v4, (sL h v0 (ix v3) v1)))
noncomputable def s_Arr_fillL (v0 : Nat) (v1 : Int64) (h : Hp) : Option Hp :=
  ak h v0 1 <| lp (fun q => s_Arr_fillL_6 q.1 q.2.1 q.2.2.1 q.2.2.2.1 q.2.2.2.2) (v0, v1, ((0 : Int32)), (nI (ln h v0)), h)
def O_Arr_fillL (G : jG) (X : jX) (out : Hp) : Prop := jO G X (none) none out
def P_Arr_fillL_6 (G : jG) (X : jX) (q : Nat × Int64 × Int32 × Int32 × Hp) : Prop := J G X 6 [(0, .ref (G.1 + q.1)), (1, .long q.2.1), (3, .int q.2.2.1), (4, .int q.2.2.2.1)] [] q.2.2.2.2
def O_Arr_fillL_6 (G : jG) (X : jX) (t : ((Nat × Int64 × Int32 × Int32 × Hp) ⊕ Hp)) : Prop := Sum.elim (P_Arr_fillL_6 G X) (O_Arr_fillL G X) t
theorem w_Arr_fillL_6 {G : jG} {X : jX} (C : jC G X cJ7_fill_d0a16 5 RJ7 1 70) {v0 : Nat} {v1 : Int64} {v3 : Int32} {v4 : Int32} {h : Hp} {out : ((Nat × Int64 × Int32 × Int32 × Hp) ⊕ Hp)} (O : (O_Arr_fillL_6 G X) out) (hm : s_Arr_fillL_6 v0 v1 v3 v4 h = some out) : J G X 6 [(0, .ref (G.1 + v0)), (1, .long v1), (3, .int v3), (4, .int v4)] [] h := by
  unfold s_Arr_fillL_6 at hm
  refine j_iload_n C 2 dJ7_fill_d0a16_6 rfl rfl ?_
  refine j_iload C 3 dJ7_fill_d0a16_7 rfl ?_
  refine j_if_icmpge C 22 dJ7_fill_d0a16_9 (by decide) hm (fun hm => ?_) (fun hm => ?_)
  · obtain rfl := Option.some.inj hm
    exact j_vret C O dJ7_fill_d0a16_22
  · refine j_aload_n C 0 dJ7_fill_d0a16_12 rfl rfl ?_
    refine j_iload_n C 2 dJ7_fill_d0a16_13 rfl rfl ?_
    refine j_lload_n C 1 dJ7_fill_d0a16_14 rfl rfl ?_
    obtain ⟨c1, hm⟩ := ak_inv hm
    refine j_last C c1 hm dJ7_fill_d0a16_15 (fun hm => ?_)
    refine j_iinc C 2 [(3, .int (v3 + (1 : Int32))), (0, .ref (G.1 + v0)), (1, .long v1), (4, .int v4)] dJ7_fill_d0a16_16 rfl (add_lit (by decide)) (by decide) rfl ?_
    refine j_goto C 6 dJ7_fill_d0a16_19 (by decide) ?_
    obtain rfl := Option.some.inj hm
    refine j_sub (L' := [(0, .ref (G.1 + v0)), (1, .long v1), (3, .int (v3 + (1 : Int32))), (4, .int v4)]) [1, 2, 0, 3] rfl ?_
    exact O
theorem k_Arr_fillL_6 {G : jG} {X : jX} (C : jC G X cJ7_fill_d0a16 5 RJ7 1 70) {v0 : Nat} {v1 : Int64} {v3 : Int32} {v4 : Int32} {h : Hp} {out : Hp} (O : (O_Arr_fillL G X) out) (hm : lp (fun q => s_Arr_fillL_6 q.1 q.2.1 q.2.2.1 q.2.2.2.1 q.2.2.2.2) (v0, v1, v3, v4, h) = some out) : J G X 6 [(0, .ref (G.1 + v0)), (1, .long v1), (3, .int v3), (4, .int v4)] [] h :=
  lp_ok (P := P_Arr_fillL_6 G X) (O := (O_Arr_fillL G X)) (fun q r hm O => w_Arr_fillL_6 C O hm) hm O
theorem w_Arr_fillL {G : jG} {X : jX} (C : jC G X cJ7_fill_d0a16 5 RJ7 1 70) {v0 : Nat} {v1 : Int64} {h : Hp} {out : Hp} (O : (O_Arr_fillL G X) out) (hm : s_Arr_fillL v0 v1 h = some out) : J G X 0 [(0, .ref (G.1 + v0)), (1, .long v1)] [] h := by
  unfold s_Arr_fillL at hm
  refine j_iconst C 0 dJ7_fill_d0a16_0 (by decide) ?_
  refine j_istore_n C [(3, .int ((0 : Int32))), (0, .ref (G.1 + v0)), (1, .long v1)] dJ7_fill_d0a16_1 rfl (by decide) rfl ?_
  refine j_aload_n C 1 dJ7_fill_d0a16_2 rfl rfl ?_
  obtain ⟨c1, hm⟩ := ak_inv hm
  refine j_alenL C (nI (ln h v0)) c1 rfl dJ7_fill_d0a16_3 ?_
  refine j_istore C [(4, .int (nI (ln h v0))), (3, .int ((0 : Int32))), (0, .ref (G.1 + v0)), (1, .long v1)] dJ7_fill_d0a16_4 (by decide) rfl ?_
  refine j_sub (L' := [(0, .ref (G.1 + v0)), (1, .long v1), (3, .int ((0 : Int32))), (4, .int (nI (ln h v0)))]) [2, 3, 1, 0] rfl ?_
  exact k_Arr_fillL_6 C O hm
theorem c_Arr_fillL {G : jG} {l : Launch} {v0 : Nat} {v1 : Int64} {h : Hp} {out : Hp} (hm : s_Arr_fillL v0 v1 h = some out) : mt G l yJ7_fill_d0a16 cJ7_fill_d0a16 5 (none) 1 70 [.ref (G.1 + v0), .long v1] h none out :=
  mt_of (by decide) (Nat.le_of_ble_eq_true rfl) _ rfl (fun X _ C O => w_Arr_fillL C O hm)
noncomputable def s_Race_isWithin_15 (s0 : Int32) (h : Hp) : Option Int32 :=
  bz s0 <| some (s0)
noncomputable def s_Race_isWithin_14 (h : Hp) : Option Int32 :=
  s_Race_isWithin_15 ((0 : Int32)) h
noncomputable def s_Race_isWithin (v0 : Int32) (v1 : Int32) (v2 : Int32) (h : Hp) : Option Int32 :=
  if v0 < v1 then
    s_Race_isWithin_14 h
  else
    if v2 < v0 then
      s_Race_isWithin_14 h
    else
      s_Race_isWithin_15 ((1 : Int32)) h
def O_Race_isWithin (G : jG) (X : jX) (h : Hp) (out : Int32) : Prop := jO G X (some .boolean) (some (.int out)) h
theorem w_Race_isWithin_15 {G : jG} {X : jX} (C : jC G X cX11_isWithin 3 RX11 1 70) {s0 : Int32} {h : Hp} {out : Int32} (O : (O_Race_isWithin G X h) out) (hm : s_Race_isWithin_15 s0 h = some out) : J G X 15 [] [.int s0] h := by
  unfold s_Race_isWithin_15 at hm
  obtain ⟨cz, hm⟩ := bz_inv hm
  obtain rfl := Option.some.inj hm
  exact j_zret C O cz dX11_isWithin_15
theorem w_Race_isWithin_14 {G : jG} {X : jX} (C : jC G X cX11_isWithin 3 RX11 1 70) {h : Hp} {out : Int32} (O : (O_Race_isWithin G X h) out) (hm : s_Race_isWithin_14 h = some out) : J G X 14 [] [] h := by
  unfold s_Race_isWithin_14 at hm
  refine j_iconst C 0 dX11_isWithin_14 (by decide) ?_
  refine j_sub (L' := []) [] rfl ?_
  exact w_Race_isWithin_15 C O hm
theorem w_Race_isWithin {G : jG} {X : jX} (C : jC G X cX11_isWithin 3 RX11 1 70) {v0 : Int32} {v1 : Int32} {v2 : Int32} {h : Hp} {out : Int32} (O : (O_Race_isWithin G X h) out) (hm : s_Race_isWithin v0 v1 v2 h = some out) : J G X 0 [(0, .int v0), (1, .int v1), (2, .int v2)] [] h := by
  unfold s_Race_isWithin at hm
  refine j_iload_n C 0 dX11_isWithin_0 rfl rfl ?_
  refine j_iload_n C 1 dX11_isWithin_1 rfl rfl ?_
  refine j_if_icmplt C 14 dX11_isWithin_2 (by decide) hm (fun hm => ?_) (fun hm => ?_)
  · refine j_sub (L' := []) [] rfl ?_
    exact w_Race_isWithin_14 C O hm
  · refine j_iload_n C 0 dX11_isWithin_5 rfl rfl ?_
    refine j_iload_n C 2 dX11_isWithin_6 rfl rfl ?_
    refine j_if_icmpgt C 14 dX11_isWithin_7 (by decide) hm (fun hm => ?_) (fun hm => ?_)
    · refine j_sub (L' := []) [] rfl ?_
      exact w_Race_isWithin_14 C O hm
    · refine j_iconst C 1 dX11_isWithin_10 (by decide) ?_
      refine j_goto C 15 dX11_isWithin_11 (by decide) ?_
      refine j_sub (L' := []) [] rfl ?_
      exact w_Race_isWithin_15 C O hm
theorem c_Race_isWithin {G : jG} {l : Launch} {v0 : Int32} {v1 : Int32} {v2 : Int32} {h : Hp} {out : Int32} (hm : s_Race_isWithin v0 v1 v2 h = some out) : mt G l yX11_isWithin cX11_isWithin 3 (some .boolean) 1 70 [.int v0, .int v1, .int v2] h (some (.int out)) h :=
  mt_of (by decide) (Nat.le_of_ble_eq_true rfl) _ rfl (fun X _ C O => w_Race_isWithin C O hm)
noncomputable def s_Mod_lies_15 (s0 : Int32) (h : Hp) : Option Int32 :=
  bz s0 <| some (s0)
noncomputable def s_Mod_lies_14 (h : Hp) : Option Int32 :=
  s_Mod_lies_15 ((0 : Int32)) h
noncomputable def s_Mod_lies (v0 : Int32) (v1 : Int32) (v2 : Int32) (h : Hp) : Option Int32 :=
  if v0 < v1 then
    s_Mod_lies_14 h
  else
    if v2 < v0 then
      s_Mod_lies_14 h
    else
      s_Mod_lies_15 ((1 : Int32)) h
def O_Mod_lies (G : jG) (X : jX) (h : Hp) (out : Int32) : Prop := jO G X (some .boolean) (some (.int out)) h
theorem w_Mod_lies_15 {G : jG} {X : jX} (C : jC G X cX12_lies 3 RX12 1 70) {s0 : Int32} {h : Hp} {out : Int32} (O : (O_Mod_lies G X h) out) (hm : s_Mod_lies_15 s0 h = some out) : J G X 15 [] [.int s0] h := by
  unfold s_Mod_lies_15 at hm
  obtain ⟨cz, hm⟩ := bz_inv hm
  obtain rfl := Option.some.inj hm
  exact j_zret C O cz dX12_lies_15
theorem w_Mod_lies_14 {G : jG} {X : jX} (C : jC G X cX12_lies 3 RX12 1 70) {h : Hp} {out : Int32} (O : (O_Mod_lies G X h) out) (hm : s_Mod_lies_14 h = some out) : J G X 14 [] [] h := by
  unfold s_Mod_lies_14 at hm
  refine j_iconst C 0 dX12_lies_14 (by decide) ?_
  refine j_sub (L' := []) [] rfl ?_
  exact w_Mod_lies_15 C O hm
theorem w_Mod_lies {G : jG} {X : jX} (C : jC G X cX12_lies 3 RX12 1 70) {v0 : Int32} {v1 : Int32} {v2 : Int32} {h : Hp} {out : Int32} (O : (O_Mod_lies G X h) out) (hm : s_Mod_lies v0 v1 v2 h = some out) : J G X 0 [(0, .int v0), (1, .int v1), (2, .int v2)] [] h := by
  unfold s_Mod_lies at hm
  refine j_iload_n C 0 dX12_lies_0 rfl rfl ?_
  refine j_iload_n C 1 dX12_lies_1 rfl rfl ?_
  refine j_if_icmplt C 14 dX12_lies_2 (by decide) hm (fun hm => ?_) (fun hm => ?_)
  · refine j_sub (L' := []) [] rfl ?_
    exact w_Mod_lies_14 C O hm
  · refine j_iload_n C 0 dX12_lies_5 rfl rfl ?_
    refine j_iload_n C 2 dX12_lies_6 rfl rfl ?_
    refine j_if_icmpgt C 14 dX12_lies_7 (by decide) hm (fun hm => ?_) (fun hm => ?_)
    · refine j_sub (L' := []) [] rfl ?_
      exact w_Mod_lies_14 C O hm
    · refine j_iconst C 1 dX12_lies_10 (by decide) ?_
      refine j_goto C 15 dX12_lies_11 (by decide) ?_
      refine j_sub (L' := []) [] rfl ?_
      exact w_Mod_lies_15 C O hm
theorem c_Mod_lies {G : jG} {l : Launch} {v0 : Int32} {v1 : Int32} {v2 : Int32} {h : Hp} {out : Int32} (hm : s_Mod_lies v0 v1 v2 h = some out) : mt G l yX12_lies cX12_lies 3 (some .boolean) 1 70 [.int v0, .int v1, .int v2] h (some (.int out)) h :=
  mt_of (by decide) (Nat.le_of_ble_eq_true rfl) _ rfl (fun X _ C O => w_Mod_lies C O hm)
noncomputable def s_Race_isMoon (v0 : Int32) (h : Hp) : Option Int32 :=
  (s_Race_isWithin v0 ((0 : Int32)) ((3 : Int32)) h).bind fun u1 => bz u1 <| some (u1)
def O_Race_isMoon (G : jG) (X : jX) (h : Hp) (out : Int32) : Prop := jO G X (some .boolean) (some (.int out)) h
theorem w_Race_isMoon {G : jG} {X : jX} (C : jC G X cX11_isMoon 1 RX11 2 92) {v0 : Int32} {h : Hp} {out : Int32} (O : (O_Race_isMoon G X h) out) (hm : s_Race_isMoon v0 h = some out) : J G X 0 [(0, .int v0)] [] h := by
  unfold s_Race_isMoon at hm
  refine j_iload_n C 0 dX11_isMoon_0 rfl rfl ?_
  refine j_iconst C 0 dX11_isMoon_1 (by decide) ?_
  refine j_iconst C 3 dX11_isMoon_2 (by decide) ?_
  refine j_cS C l_X11_102 [.int v0, .int ((0 : Int32)), .int ((3 : Int32))] [] (fun u1 => some (.int u1)) (fun _ => h) (fun u1 => [.int u1]) hm (fun l u hu => c_Race_isWithin hu) rfl (Nat.le_of_ble_eq_true rfl) rfl (Nat.le_of_ble_eq_true rfl) (Nat.le_of_ble_eq_true rfl) (fun _ => rfl) dX11_isMoon_3 (fun u1 hm => ?_)
  obtain ⟨cz, hm⟩ := bz_inv hm
  obtain rfl := Option.some.inj hm
  exact j_zret C O cz dX11_isMoon_6
theorem c_Race_isMoon {G : jG} {l : Launch} {v0 : Int32} {h : Hp} {out : Int32} (hm : s_Race_isMoon v0 h = some out) : mt G l yX11_isMoon cX11_isMoon 1 (some .boolean) 2 92 [.int v0] h (some (.int out)) h :=
  mt_of (by decide) (Nat.le_of_ble_eq_true rfl) _ rfl (fun X _ C O => w_Race_isMoon C O hm)
noncomputable def s_Race_moonPlace (v0 : Int32) (v1 : Int32) (h : Hp) : Option Int32 :=
  some (((v0 * ((4 : Int32))) + v1) * ((3 : Int32)))
def O_Race_moonPlace (G : jG) (X : jX) (h : Hp) (out : Int32) : Prop := jO G X (some .int) (some (.int out)) h
theorem w_Race_moonPlace {G : jG} {X : jX} (C : jC G X cX11_moonPlace 2 RX11 1 70) {v0 : Int32} {v1 : Int32} {h : Hp} {out : Int32} (O : (O_Race_moonPlace G X h) out) (hm : s_Race_moonPlace v0 v1 h = some out) : J G X 0 [(0, .int v0), (1, .int v1)] [] h := by
  unfold s_Race_moonPlace at hm
  refine j_iload_n C 0 dX11_moonPlace_0 rfl rfl ?_
  refine j_iconst C 4 dX11_moonPlace_1 (by decide) ?_
  refine j_imul C dX11_moonPlace_2 ?_
  refine j_iload_n C 1 dX11_moonPlace_3 rfl rfl ?_
  refine j_iadd C dX11_moonPlace_4 ?_
  refine j_iconst C 3 dX11_moonPlace_5 (by decide) ?_
  refine j_imul C dX11_moonPlace_6 ?_
  obtain rfl := Option.some.inj hm
  exact j_iret C O dX11_moonPlace_7
theorem c_Race_moonPlace {G : jG} {l : Launch} {v0 : Int32} {v1 : Int32} {h : Hp} {out : Int32} (hm : s_Race_moonPlace v0 v1 h = some out) : mt G l yX11_moonPlace cX11_moonPlace 2 (some .int) 1 70 [.int v0, .int v1] h (some (.int out)) h :=
  mt_of (by decide) (Nat.le_of_ble_eq_true rfl) _ rfl (fun X _ C O => w_Race_moonPlace C O hm)
noncomputable def s_Water_forgetFlows (h : Hp) : Option Hp :=
  lt (sI (sI (sI (sI h 50 10 ((0 : Int32))) 50 11 ((0 : Int32))) 50 12 ((-1 : Int32))) 50 13 ((-1 : Int32))) fun h1 => (s_Arr_fillL 56 ((-1 : Int64)) h1).bind fun u2 => some u2
def O_Water_forgetFlows (G : jG) (X : jX) (out : Hp) : Prop := jO G X (none) none out
theorem w_Water_forgetFlows {G : jG} {X : jX} (C : jC G X cX9_forgetFlows 1 RX9 2 94) {h : Hp} {out : Hp} (O : (O_Water_forgetFlows G X) out) (hm : s_Water_forgetFlows h = some out) : J G X 0 [(0, .ref (G.1 + 50))] [] h := by
  unfold s_Water_forgetFlows at hm
  refine j_aload_n C 0 dX9_forgetFlows_0 rfl rfl ?_
  refine j_iconst C 0 dX9_forgetFlows_1 (by decide) ?_
  refine j_pZ C f_X9_45 n_50 (by decide) dX9_forgetFlows_2 ?_
  refine j_aload_n C 0 dX9_forgetFlows_5 rfl rfl ?_
  refine j_iconst C 0 dX9_forgetFlows_6 (by decide) ?_
  refine j_pZ C f_X9_48 n_50 (by decide) dX9_forgetFlows_7 ?_
  refine j_aload_n C 0 dX9_forgetFlows_10 rfl rfl ?_
  refine j_iconst C (-1 : Int32) dX9_forgetFlows_11 (by decide) ?_
  refine j_pI C f_X9_51 n_50 dX9_forgetFlows_12 ?_
  refine j_aload_n C 0 dX9_forgetFlows_15 rfl rfl ?_
  refine j_iconst C (-1 : Int32) dX9_forgetFlows_16 (by decide) ?_
  refine j_pI C f_X9_55 n_50 dX9_forgetFlows_17 ?_
  refine j_aload_n C 0 dX9_forgetFlows_20 rfl rfl ?_
  refine j_nmH hm (fun h1 hm => ?_)
  refine j_gS C f_X9_25 n_50 q_50_4 dX9_forgetFlows_21 ?_
  refine j_ldc2 C wd_336 dX9_forgetFlows_24 ?_
  refine j_cS C l_X9_64 [.ref (G.1 + 56), .long ((-1 : Int64))] [] (fun _ => none) (fun u2 => u2) (fun u2 => []) hm (fun l u hu => c_Arr_fillL hu) rfl (Nat.le_of_ble_eq_true rfl) rfl (Nat.le_of_ble_eq_true rfl) (Nat.le_of_ble_eq_true rfl) (fun _ => rfl) dX9_forgetFlows_27 (fun u2 hm => ?_)
  obtain rfl := Option.some.inj hm
  exact j_vret C O dX9_forgetFlows_30
theorem c_Water_forgetFlows {G : jG} {l : Launch} {h : Hp} {out : Hp} (hm : s_Water_forgetFlows h = some out) : mt G l yX9_forgetFlows cX9_forgetFlows 1 (none) 2 94 [.ref (G.1 + 50)] h none out :=
  mt_of (by decide) (Nat.le_of_ble_eq_true rfl) _ rfl (fun X _ C O => w_Water_forgetFlows C O hm)
noncomputable def s_Race_forgetFlows (h : Hp) : Option Hp :=
  (s_Water_forgetFlows h).bind fun u1 => lt (sI u1 58 12 ((0 : Int32))) fun h2 => lt (sI h2 69 8 ((0 : Int32))) fun h3 => lt (sI h3 74 5 ((-1 : Int32))) fun h4 => some (sI h4 78 4 ((0 : Int32)))
def O_Race_forgetFlows (G : jG) (X : jX) (out : Hp) : Prop := jO G X (none) none out
theorem w_Race_forgetFlows {G : jG} {X : jX} (C : jC G X cX11_forgetFlows 1 RX11 3 114) {h : Hp} {out : Hp} (O : (O_Race_forgetFlows G X) out) (hm : s_Race_forgetFlows h = some out) : J G X 0 [(0, .ref (G.1 + 0))] [] h := by
  unfold s_Race_forgetFlows at hm
  refine j_aload_n C 0 dX11_forgetFlows_0 rfl rfl ?_
  refine j_gS C f_X11_45 n_0 q_0_5 dX11_forgetFlows_1 ?_
  refine j_cV C l_X11_375 [] [] (fun _ => none) (fun u1 => u1) (fun u1 => []) n_50 hm (fun l u hu => c_Water_forgetFlows hu) rfl (Nat.le_of_ble_eq_true rfl) rfl (Nat.le_of_ble_eq_true rfl) (Nat.le_of_ble_eq_true rfl) (fun _ => rfl) dX11_forgetFlows_4 (fun u1 hm => ?_)
  refine j_aload_n C 0 dX11_forgetFlows_7 rfl rfl ?_
  refine j_gS C f_X11_54 n_0 q_0_6 dX11_forgetFlows_8 ?_
  refine j_iconst C 0 dX11_forgetFlows_11 (by decide) ?_
  refine j_pZ C f_X11_376 n_58 (by decide) dX11_forgetFlows_12 ?_
  refine j_aload_n C 0 dX11_forgetFlows_15 rfl rfl ?_
  refine j_nmH hm (fun h2 hm => ?_)
  refine j_gS C f_X11_61 n_0 q_0_7 dX11_forgetFlows_16 ?_
  refine j_iconst C 0 dX11_forgetFlows_19 (by decide) ?_
  refine j_pZ C f_X11_285 n_69 (by decide) dX11_forgetFlows_20 ?_
  refine j_aload_n C 0 dX11_forgetFlows_23 rfl rfl ?_
  refine j_nmH hm (fun h3 hm => ?_)
  refine j_gS C f_X11_68 n_0 q_0_8 dX11_forgetFlows_24 ?_
  refine j_iconst C (-1 : Int32) dX11_forgetFlows_27 (by decide) ?_
  refine j_pI C f_X11_326 n_74 dX11_forgetFlows_28 ?_
  refine j_aload_n C 0 dX11_forgetFlows_31 rfl rfl ?_
  refine j_nmH hm (fun h4 hm => ?_)
  refine j_gS C f_X11_77 n_0 q_0_9 dX11_forgetFlows_32 ?_
  refine j_iconst C 0 dX11_forgetFlows_35 (by decide) ?_
  refine j_pZ C f_X11_379 n_78 (by decide) dX11_forgetFlows_36 ?_
  obtain rfl := Option.some.inj hm
  exact j_vret C O dX11_forgetFlows_39
theorem c_Race_forgetFlows {G : jG} {l : Launch} {h : Hp} {out : Hp} (hm : s_Race_forgetFlows h = some out) : mt G l yX11_forgetFlows cX11_forgetFlows 1 (none) 3 114 [.ref (G.1 + 0)] h none out :=
  mt_of (by decide) (Nat.le_of_ble_eq_true rfl) _ rfl (fun X _ C O => w_Race_forgetFlows C O hm)
noncomputable def s_Race_forgetLevels (h : Hp) : Option Hp :=
  (s_Race_forgetFlows (sI h 50 9 ((0 : Int32)))).bind fun u1 => some u1
def O_Race_forgetLevels (G : jG) (X : jX) (out : Hp) : Prop := jO G X (none) none out
theorem w_Race_forgetLevels {G : jG} {X : jX} (C : jC G X cX11_forgetLevels 1 RX11 4 134) {h : Hp} {out : Hp} (O : (O_Race_forgetLevels G X) out) (hm : s_Race_forgetLevels h = some out) : J G X 0 [(0, .ref (G.1 + 0))] [] h := by
  unfold s_Race_forgetLevels at hm
  refine j_aload_n C 0 dX11_forgetLevels_0 rfl rfl ?_
  refine j_gS C f_X11_45 n_0 q_0_5 dX11_forgetLevels_1 ?_
  refine j_iconst C 0 dX11_forgetLevels_4 (by decide) ?_
  refine j_pZ C f_X11_372 n_50 (by decide) dX11_forgetLevels_5 ?_
  refine j_aload_n C 0 dX11_forgetLevels_8 rfl rfl ?_
  refine j_cV C l_X11_151 [] [] (fun _ => none) (fun u1 => u1) (fun u1 => []) n_0 hm (fun l u hu => c_Race_forgetFlows hu) rfl (Nat.le_of_ble_eq_true rfl) rfl (Nat.le_of_ble_eq_true rfl) (Nat.le_of_ble_eq_true rfl) (fun _ => rfl) dX11_forgetLevels_9 (fun u1 hm => ?_)
  obtain rfl := Option.some.inj hm
  exact j_vret C O dX11_forgetLevels_12
theorem c_Race_forgetLevels {G : jG} {l : Launch} {h : Hp} {out : Hp} (hm : s_Race_forgetLevels h = some out) : mt G l yX11_forgetLevels cX11_forgetLevels 1 (none) 4 134 [.ref (G.1 + 0)] h none out :=
  mt_of (by decide) (Nat.le_of_ble_eq_true rfl) _ rfl (fun X _ C O => w_Race_forgetLevels C O hm)
noncomputable def s_Race_grant (v1 : Int32) (h : Hp) : Option (Int32 × Hp) :=
  some (v1, sI h 0 12 ((0 : Int32)))
def O_Race_grant (G : jG) (X : jX) (out : (Int32 × Hp)) : Prop := jO G X (some .int) (some (.int out.1)) out.2
theorem w_Race_grant {G : jG} {X : jX} (C : jC G X cX11_grant 2 RX11 1 70) {v1 : Int32} {h : Hp} {out : (Int32 × Hp)} (O : (O_Race_grant G X) out) (hm : s_Race_grant v1 h = some out) : J G X 0 [(0, .ref (G.1 + 0)), (1, .int v1)] [] h := by
  unfold s_Race_grant at hm
  refine j_aload_n C 0 dX11_grant_0 rfl rfl ?_
  refine j_iconst C 0 dX11_grant_1 (by decide) ?_
  refine j_pI C f_X11_92 n_0 dX11_grant_2 ?_
  refine j_iload_n C 1 dX11_grant_5 rfl rfl ?_
  obtain rfl := Option.some.inj hm
  exact j_iret C O dX11_grant_6
theorem c_Race_grant {G : jG} {l : Launch} {v1 : Int32} {h : Hp} {out : (Int32 × Hp)} (hm : s_Race_grant v1 h = some out) : mt G l yX11_grant cX11_grant 2 (some .int) 1 70 [.ref (G.1 + 0), .int v1] h (some (.int out.1)) out.2 :=
  mt_of (by decide) (Nat.le_of_ble_eq_true rfl) _ rfl (fun X _ C O => w_Race_grant C O hm)
noncomputable def s_Race_refuse_35 (v1 : Int32) (s0 : Int32) (h : Hp) : Option (Int32 × Hp) :=
  ib s0 4 <| ib s0 4 <| some (v1, sI h 83 (ix s0) ((hI h 83 (ix s0)) + ((1 : Int32))))
noncomputable def s_Race_refuse (v1 : Int32) (h : Hp) : Option (Int32 × Hp) :=
  if v1 = ((-1 : Int32)) then
    s_Race_refuse_35 v1 ((0 : Int32)) (sI h 0 12 v1)
  else
    if v1 = ((-2 : Int32)) then
      s_Race_refuse_35 v1 ((1 : Int32)) (sI h 0 12 v1)
    else
      if v1 = ((-5 : Int32)) then
        s_Race_refuse_35 v1 ((2 : Int32)) (sI h 0 12 v1)
      else
        s_Race_refuse_35 v1 ((3 : Int32)) (sI h 0 12 v1)
def O_Race_refuse (G : jG) (X : jX) (out : (Int32 × Hp)) : Prop := jO G X (some .int) (some (.int out.1)) out.2
theorem w_Race_refuse_35 {G : jG} {X : jX} (C : jC G X cX11_refuse 3 RX11 1 70) {v1 : Int32} {s0 : Int32} {h : Hp} {out : (Int32 × Hp)} (O : (O_Race_refuse G X) out) (hm : s_Race_refuse_35 v1 s0 h = some out) : J G X 35 [(0, .ref (G.1 + 0)), (1, .int v1)] [.int s0] h := by
  unfold s_Race_refuse_35 at hm
  refine j_istore_n C [(2, .int s0), (0, .ref (G.1 + 0)), (1, .int v1)] dX11_refuse_35 rfl (by decide) rfl ?_
  refine j_aload_n C 1 dX11_refuse_36 rfl rfl ?_
  refine j_gS C f_X11_88 n_0 q_0_11 dX11_refuse_37 ?_
  refine j_iload_n C 0 dX11_refuse_40 rfl rfl ?_
  refine j_dup2_11 C dX11_refuse_41 rfl rfl ?_
  refine j_iald C n_83 hm dX11_refuse_42 (fun hm => ?_)
  refine j_iconst C 1 dX11_refuse_43 (by decide) ?_
  refine j_iadd C dX11_refuse_44 ?_
  refine j_iast C n_83 hm dX11_refuse_45 (fun hm => ?_)
  refine j_iload_n C 2 dX11_refuse_46 rfl rfl ?_
  obtain rfl := Option.some.inj hm
  exact j_iret C O dX11_refuse_47
theorem w_Race_refuse {G : jG} {X : jX} (C : jC G X cX11_refuse 3 RX11 1 70) {v1 : Int32} {h : Hp} {out : (Int32 × Hp)} (O : (O_Race_refuse G X) out) (hm : s_Race_refuse v1 h = some out) : J G X 0 [(0, .ref (G.1 + 0)), (1, .int v1)] [] h := by
  unfold s_Race_refuse at hm
  refine j_aload_n C 0 dX11_refuse_0 rfl rfl ?_
  refine j_iload_n C 1 dX11_refuse_1 rfl rfl ?_
  refine j_pI C f_X11_92 n_0 dX11_refuse_2 ?_
  refine j_iload_n C 1 dX11_refuse_5 rfl rfl ?_
  refine j_iconst C (-1 : Int32) dX11_refuse_6 (by decide) ?_
  refine j_if_icmpne C 14 dX11_refuse_7 (by decide) hm (fun hm => ?_) (fun hm => ?_)
  · refine j_iconst C 0 dX11_refuse_10 (by decide) ?_
    refine j_goto C 35 dX11_refuse_11 (by decide) ?_
    refine j_sub (L' := [(0, .ref (G.1 + 0)), (1, .int v1)]) [0, 1] rfl ?_
    exact w_Race_refuse_35 C O hm
  · refine j_iload_n C 1 dX11_refuse_14 rfl rfl ?_
    refine j_bipush C (-2 : Int32) dX11_refuse_15 (by decide) ?_
    refine j_if_icmpne C 24 dX11_refuse_17 (by decide) hm (fun hm => ?_) (fun hm => ?_)
    · refine j_iconst C 1 dX11_refuse_20 (by decide) ?_
      refine j_goto C 35 dX11_refuse_21 (by decide) ?_
      refine j_sub (L' := [(0, .ref (G.1 + 0)), (1, .int v1)]) [0, 1] rfl ?_
      exact w_Race_refuse_35 C O hm
    · refine j_iload_n C 1 dX11_refuse_24 rfl rfl ?_
      refine j_bipush C (-5 : Int32) dX11_refuse_25 (by decide) ?_
      refine j_if_icmpne C 34 dX11_refuse_27 (by decide) hm (fun hm => ?_) (fun hm => ?_)
      · refine j_iconst C 2 dX11_refuse_30 (by decide) ?_
        refine j_goto C 35 dX11_refuse_31 (by decide) ?_
        refine j_sub (L' := [(0, .ref (G.1 + 0)), (1, .int v1)]) [0, 1] rfl ?_
        exact w_Race_refuse_35 C O hm
      · refine j_iconst C 3 dX11_refuse_34 (by decide) ?_
        refine j_sub (L' := [(0, .ref (G.1 + 0)), (1, .int v1)]) [0, 1] rfl ?_
        exact w_Race_refuse_35 C O hm
theorem c_Race_refuse {G : jG} {l : Launch} {v1 : Int32} {h : Hp} {out : (Int32 × Hp)} (hm : s_Race_refuse v1 h = some out) : mt G l yX11_refuse cX11_refuse 3 (some .int) 1 70 [.ref (G.1 + 0), .int v1] h (some (.int out.1)) out.2 :=
  mt_of (by decide) (Nat.le_of_ble_eq_true rfl) _ rfl (fun X _ C O => w_Race_refuse C O hm)
noncomputable def s_Race_boat_21 (h : Hp) : Option (Int32 × Hp) :=
  (s_Race_refuse ((-1 : Int32)) h).bind fun u1 => some (u1.1, u1.2)
noncomputable def s_Race_boat (v1 : Int32) (v2 : Int32) (h : Hp) : Option (Int32 × Hp) :=
  (s_Race_isWithin v1 ((1 : Int32)) ((1500 : Int32)) h).bind fun u1 => if u1 = 0 then
    s_Race_boat_21 h
  else
    (s_Race_isWithin v2 ((0 : Int32)) ((99 : Int32)) h).bind fun u2 => if u2 = 0 then
      s_Race_boat_21 h
    else
      if (hI h 1 15) < ((6 : Int32)) then
        ib (hI h 1 15) 6 <| lt (sI h 7 (ix (hI h 1 15)) v1) fun h3 => ib (hI h3 1 15) 6 <| lt (sI h3 8 (ix (hI h3 1 15)) v2) fun h4 => lt (sI h4 1 15 ((hI h4 1 15) + ((1 : Int32)))) fun h5 => (s_Race_grant ((hI h5 1 15) - ((1 : Int32))) h5).bind fun u6 => some (u6.1, u6.2)
      else
        (s_Race_refuse ((-5 : Int32)) h).bind fun u7 => some (u7.1, u7.2)
def O_Race_boat (G : jG) (X : jX) (out : (Int32 × Hp)) : Prop := jO G X (some .int) (some (.int out.1)) out.2
theorem w_Race_boat_21 {G : jG} {X : jX} (C : jC G X cX11_boat 3 RX11 2 92) {h : Hp} {out : (Int32 × Hp)} (O : (O_Race_boat G X) out) (hm : s_Race_boat_21 h = some out) : J G X 21 [(0, .ref (G.1 + 0))] [] h := by
  unfold s_Race_boat_21 at hm
  refine j_aload_n C 0 dX11_boat_21 rfl rfl ?_
  refine j_iconst C (-1 : Int32) dX11_boat_22 (by decide) ?_
  refine j_cV C l_X11_112 [.int ((-1 : Int32))] [] (fun u1 => some (.int u1.1)) (fun u1 => u1.2) (fun u1 => [.int u1.1]) n_0 hm (fun l u hu => c_Race_refuse hu) rfl (Nat.le_of_ble_eq_true rfl) rfl (Nat.le_of_ble_eq_true rfl) (Nat.le_of_ble_eq_true rfl) (fun _ => rfl) dX11_boat_23 (fun u1 hm => ?_)
  obtain rfl := Option.some.inj hm
  exact j_iret C O dX11_boat_26
theorem w_Race_boat {G : jG} {X : jX} (C : jC G X cX11_boat 3 RX11 2 92) {v1 : Int32} {v2 : Int32} {h : Hp} {out : (Int32 × Hp)} (O : (O_Race_boat G X) out) (hm : s_Race_boat v1 v2 h = some out) : J G X 0 [(0, .ref (G.1 + 0)), (1, .int v1), (2, .int v2)] [] h := by
  unfold s_Race_boat at hm
  refine j_iload_n C 1 dX11_boat_0 rfl rfl ?_
  refine j_iconst C 1 dX11_boat_1 (by decide) ?_
  refine j_sipush C 1500 dX11_boat_2 (by decide) ?_
  refine j_cS C l_X11_102 [.int v1, .int ((1 : Int32)), .int ((1500 : Int32))] [] (fun u1 => some (.int u1)) (fun _ => h) (fun u1 => [.int u1]) hm (fun l u hu => c_Race_isWithin hu) rfl (Nat.le_of_ble_eq_true rfl) rfl (Nat.le_of_ble_eq_true rfl) (Nat.le_of_ble_eq_true rfl) (fun _ => rfl) dX11_boat_5 (fun u1 hm => ?_)
  refine j_ifeq C 21 dX11_boat_8 (by decide) hm (fun hm => ?_) (fun hm => ?_)
  · refine j_sub (L' := [(0, .ref (G.1 + 0))]) [0] rfl ?_
    exact w_Race_boat_21 C O hm
  · refine j_iload_n C 2 dX11_boat_11 rfl rfl ?_
    refine j_iconst C 0 dX11_boat_12 (by decide) ?_
    refine j_bipush C 99 dX11_boat_13 (by decide) ?_
    refine j_cS C l_X11_102 [.int v2, .int ((0 : Int32)), .int ((99 : Int32))] [] (fun u2 => some (.int u2)) (fun _ => h) (fun u2 => [.int u2]) hm (fun l u hu => c_Race_isWithin hu) rfl (Nat.le_of_ble_eq_true rfl) rfl (Nat.le_of_ble_eq_true rfl) (Nat.le_of_ble_eq_true rfl) (fun _ => rfl) dX11_boat_15 (fun u2 hm => ?_)
    refine j_ifne C 27 dX11_boat_18 (by decide) hm (fun hm => ?_) (fun hm => ?_)
    · refine j_sub (L' := [(0, .ref (G.1 + 0))]) [0] rfl ?_
      exact w_Race_boat_21 C O hm
    · refine j_aload_n C 0 dX11_boat_27 rfl rfl ?_
      refine j_gS C f_X11_10 n_0 q_0_0 dX11_boat_28 ?_
      refine j_gI C f_X11_229 n_1 dX11_boat_31 ?_
      refine j_bipush C 6 dX11_boat_34 (by decide) ?_
      refine j_if_icmplt C 46 dX11_boat_36 (by decide) hm (fun hm => ?_) (fun hm => ?_)
      · refine j_aload_n C 0 dX11_boat_46 rfl rfl ?_
        refine j_gS C f_X11_10 n_0 q_0_0 dX11_boat_47 ?_
        refine j_gS C f_X11_232 n_1 q_1_5 dX11_boat_50 ?_
        refine j_aload_n C 0 dX11_boat_53 rfl rfl ?_
        refine j_gS C f_X11_10 n_0 q_0_0 dX11_boat_54 ?_
        refine j_gI C f_X11_229 n_1 dX11_boat_57 ?_
        refine j_iload_n C 1 dX11_boat_60 rfl rfl ?_
        refine j_iast C n_7 hm dX11_boat_61 (fun hm => ?_)
        refine j_aload_n C 0 dX11_boat_62 rfl rfl ?_
        refine j_nmH hm (fun h3 hm => ?_)
        refine j_gS C f_X11_10 n_0 q_0_0 dX11_boat_63 ?_
        refine j_gS C f_X11_235 n_1 q_1_6 dX11_boat_66 ?_
        refine j_aload_n C 0 dX11_boat_69 rfl rfl ?_
        refine j_gS C f_X11_10 n_0 q_0_0 dX11_boat_70 ?_
        refine j_gI C f_X11_229 n_1 dX11_boat_73 ?_
        refine j_iload_n C 2 dX11_boat_76 rfl rfl ?_
        refine j_iast C n_8 hm dX11_boat_77 (fun hm => ?_)
        refine j_aload_n C 0 dX11_boat_78 rfl rfl ?_
        refine j_nmH hm (fun h4 hm => ?_)
        refine j_gS C f_X11_10 n_0 q_0_0 dX11_boat_79 ?_
        refine j_dup C dX11_boat_82 rfl ?_
        refine j_gI C f_X11_229 n_1 dX11_boat_83 ?_
        refine j_iconst C 1 dX11_boat_86 (by decide) ?_
        refine j_iadd C dX11_boat_87 ?_
        refine j_pI C f_X11_229 n_1 dX11_boat_88 ?_
        refine j_aload_n C 0 dX11_boat_91 rfl rfl ?_
        refine j_aload_n C 0 dX11_boat_92 rfl rfl ?_
        refine j_nmH hm (fun h5 hm => ?_)
        refine j_gS C f_X11_10 n_0 q_0_0 dX11_boat_93 ?_
        refine j_gI C f_X11_229 n_1 dX11_boat_96 ?_
        refine j_iconst C 1 dX11_boat_99 (by decide) ?_
        refine j_isub C dX11_boat_100 ?_
        refine j_cV C l_X11_122 [.int ((hI h5 1 15) - ((1 : Int32)))] [] (fun u6 => some (.int u6.1)) (fun u6 => u6.2) (fun u6 => [.int u6.1]) n_0 hm (fun l u hu => c_Race_grant hu) rfl (Nat.le_of_ble_eq_true rfl) rfl (Nat.le_of_ble_eq_true rfl) (Nat.le_of_ble_eq_true rfl) (fun _ => rfl) dX11_boat_101 (fun u6 hm => ?_)
        obtain rfl := Option.some.inj hm
        exact j_iret C O dX11_boat_104
      · refine j_aload_n C 0 dX11_boat_39 rfl rfl ?_
        refine j_bipush C (-5 : Int32) dX11_boat_40 (by decide) ?_
        refine j_cV C l_X11_112 [.int ((-5 : Int32))] [] (fun u7 => some (.int u7.1)) (fun u7 => u7.2) (fun u7 => [.int u7.1]) n_0 hm (fun l u hu => c_Race_refuse hu) rfl (Nat.le_of_ble_eq_true rfl) rfl (Nat.le_of_ble_eq_true rfl) (Nat.le_of_ble_eq_true rfl) (fun _ => rfl) dX11_boat_42 (fun u7 hm => ?_)
        obtain rfl := Option.some.inj hm
        exact j_iret C O dX11_boat_45
theorem c_Race_boat {G : jG} {l : Launch} {v1 : Int32} {v2 : Int32} {h : Hp} {out : (Int32 × Hp)} (hm : s_Race_boat v1 v2 h = some out) : mt G l yX11_boat cX11_boat 3 (some .int) 2 92 [.ref (G.1 + 0), .int v1, .int v2] h (some (.int out.1)) out.2 :=
  mt_of (by decide) (Nat.le_of_ble_eq_true rfl) _ rfl (fun X _ C O => w_Race_boat C O hm)
noncomputable def s_Race_moon_43 (h : Hp) : Option (Int32 × Hp) :=
  (s_Race_refuse ((-1 : Int32)) h).bind fun u1 => some (u1.1, u1.2)
noncomputable def s_Race_moon (v1 : Int32) (v2 : Int32) (v3 : Int32) (v4 : Int32) (h : Hp) : Option (Int32 × Hp) :=
  (s_Race_isWithin v1 ((0 : Int32)) ((1 : Int32)) h).bind fun u1 => if u1 = 0 then
    s_Race_moon_43 h
  else
    (s_Race_isMoon v2 h).bind fun u2 => if u2 = 0 then
      s_Race_moon_43 h
    else
      (s_Race_isWithin v3 ((0 : Int32)) ((2 : Int32)) h).bind fun u3 => if u3 = 0 then
        s_Race_moon_43 h
      else
        ib v3 3 <| ib v3 3 <| (s_Race_isWithin v4 ([0, 60, 0].getD (ix v3) 0) ([500, 2000, 1999].getD (ix v3) 0) h).bind fun u4 => if u4 = 0 then
          s_Race_moon_43 h
        else
          (s_Race_moonPlace v1 v2 h).bind fun u5 => ib (u5 + v3) 24 <| ib (u5 + v3) 24 <| (s_Race_forgetLevels (sI h 3 (ix (u5 + v3)) v4)).bind fun u6 => (s_Race_grant (hI h 3 (ix (u5 + v3))) u6).bind fun u7 => some (u7.1, u7.2)
def O_Race_moon (G : jG) (X : jX) (out : (Int32 × Hp)) : Prop := jO G X (some .int) (some (.int out.1)) out.2
theorem w_Race_moon_43 {G : jG} {X : jX} (C : jC G X cX11_moon 7 RX11 5 154) {h : Hp} {out : (Int32 × Hp)} (O : (O_Race_moon G X) out) (hm : s_Race_moon_43 h = some out) : J G X 43 [(0, .ref (G.1 + 0))] [] h := by
  unfold s_Race_moon_43 at hm
  refine j_aload_n C 0 dX11_moon_43 rfl rfl ?_
  refine j_iconst C (-1 : Int32) dX11_moon_44 (by decide) ?_
  refine j_cV C l_X11_112 [.int ((-1 : Int32))] [] (fun u1 => some (.int u1.1)) (fun u1 => u1.2) (fun u1 => [.int u1.1]) n_0 hm (fun l u hu => c_Race_refuse hu) rfl (Nat.le_of_ble_eq_true rfl) rfl (Nat.le_of_ble_eq_true rfl) (Nat.le_of_ble_eq_true rfl) (fun _ => rfl) dX11_moon_45 (fun u1 hm => ?_)
  obtain rfl := Option.some.inj hm
  exact j_iret C O dX11_moon_48
theorem w_Race_moon {G : jG} {X : jX} (C : jC G X cX11_moon 7 RX11 5 154) {v1 : Int32} {v2 : Int32} {v3 : Int32} {v4 : Int32} {h : Hp} {out : (Int32 × Hp)} (O : (O_Race_moon G X) out) (hm : s_Race_moon v1 v2 v3 v4 h = some out) : J G X 0 [(0, .ref (G.1 + 0)), (1, .int v1), (2, .int v2), (3, .int v3), (4, .int v4)] [] h := by
  unfold s_Race_moon at hm
  refine j_iload_n C 1 dX11_moon_0 rfl rfl ?_
  refine j_iconst C 0 dX11_moon_1 (by decide) ?_
  refine j_iconst C 1 dX11_moon_2 (by decide) ?_
  refine j_cS C l_X11_102 [.int v1, .int ((0 : Int32)), .int ((1 : Int32))] [] (fun u1 => some (.int u1)) (fun _ => h) (fun u1 => [.int u1]) hm (fun l u hu => c_Race_isWithin hu) rfl (Nat.le_of_ble_eq_true rfl) rfl (Nat.le_of_ble_eq_true rfl) (Nat.le_of_ble_eq_true rfl) (fun _ => rfl) dX11_moon_3 (fun u1 hm => ?_)
  refine j_ifeq C 43 dX11_moon_6 (by decide) hm (fun hm => ?_) (fun hm => ?_)
  · refine j_sub (L' := [(0, .ref (G.1 + 0))]) [0] rfl ?_
    exact w_Race_moon_43 C O hm
  · refine j_iload_n C 2 dX11_moon_9 rfl rfl ?_
    refine j_cS C l_X11_125 [.int v2] [] (fun u2 => some (.int u2)) (fun _ => h) (fun u2 => [.int u2]) hm (fun l u hu => c_Race_isMoon hu) rfl (Nat.le_of_ble_eq_true rfl) rfl (Nat.le_of_ble_eq_true rfl) (Nat.le_of_ble_eq_true rfl) (fun _ => rfl) dX11_moon_10 (fun u2 hm => ?_)
    refine j_ifeq C 43 dX11_moon_13 (by decide) hm (fun hm => ?_) (fun hm => ?_)
    · refine j_sub (L' := [(0, .ref (G.1 + 0))]) [0] rfl ?_
      exact w_Race_moon_43 C O hm
    · refine j_iload_n C 3 dX11_moon_16 rfl rfl ?_
      refine j_iconst C 0 dX11_moon_17 (by decide) ?_
      refine j_iconst C 2 dX11_moon_18 (by decide) ?_
      refine j_cS C l_X11_102 [.int v3, .int ((0 : Int32)), .int ((2 : Int32))] [] (fun u3 => some (.int u3)) (fun _ => h) (fun u3 => [.int u3]) hm (fun l u hu => c_Race_isWithin hu) rfl (Nat.le_of_ble_eq_true rfl) rfl (Nat.le_of_ble_eq_true rfl) (Nat.le_of_ble_eq_true rfl) (fun _ => rfl) dX11_moon_19 (fun u3 hm => ?_)
      refine j_ifeq C 43 dX11_moon_22 (by decide) hm (fun hm => ?_) (fun hm => ?_)
      · refine j_sub (L' := [(0, .ref (G.1 + 0))]) [0] rfl ?_
        exact w_Race_moon_43 C O hm
      · refine j_iload C 4 dX11_moon_25 rfl ?_
        refine j_gs C (i := 1) rfl wd_651 dX11_moon_27 ?_
        refine j_iload_n C 3 dX11_moon_30 rfl rfl ?_
        refine j_sald C (a := 1) rfl rfl hm dX11_moon_31 (fun hm => ?_)
        refine j_gs C (i := 2) rfl wd_653 dX11_moon_32 ?_
        refine j_iload_n C 3 dX11_moon_35 rfl rfl ?_
        refine j_sald C (a := 2) rfl rfl hm dX11_moon_36 (fun hm => ?_)
        refine j_cS C l_X11_102 [.int v4, .int ([0, 60, 0].getD (ix v3) 0), .int ([500, 2000, 1999].getD (ix v3) 0)] [] (fun u4 => some (.int u4)) (fun _ => h) (fun u4 => [.int u4]) hm (fun l u hu => c_Race_isWithin hu) rfl (Nat.le_of_ble_eq_true rfl) rfl (Nat.le_of_ble_eq_true rfl) (Nat.le_of_ble_eq_true rfl) (fun _ => rfl) dX11_moon_37 (fun u4 hm => ?_)
        refine j_ifne C 49 dX11_moon_40 (by decide) hm (fun hm => ?_) (fun hm => ?_)
        · refine j_sub (L' := [(0, .ref (G.1 + 0))]) [0] rfl ?_
          exact w_Race_moon_43 C O hm
        · refine j_iload_n C 1 dX11_moon_49 rfl rfl ?_
          refine j_iload_n C 2 dX11_moon_50 rfl rfl ?_
          refine j_cS C l_X11_135 [.int v1, .int v2] [] (fun u5 => some (.int u5)) (fun _ => h) (fun u5 => [.int u5]) hm (fun l u hu => c_Race_moonPlace hu) rfl (Nat.le_of_ble_eq_true rfl) rfl (Nat.le_of_ble_eq_true rfl) (Nat.le_of_ble_eq_true rfl) (fun _ => rfl) dX11_moon_51 (fun u5 hm => ?_)
          refine j_iload_n C 3 dX11_moon_54 rfl rfl ?_
          refine j_iadd C dX11_moon_55 ?_
          refine j_istore C [(5, .int (u5 + v3)), (0, .ref (G.1 + 0)), (1, .int v1), (2, .int v2), (3, .int v3), (4, .int v4)] dX11_moon_56 (by decide) rfl ?_
          refine j_aload_n C 1 dX11_moon_58 rfl rfl ?_
          refine j_gS C f_X11_10 n_0 q_0_0 dX11_moon_59 ?_
          refine j_gS C f_X11_139 n_1 q_1_1 dX11_moon_62 ?_
          refine j_iload C 0 dX11_moon_65 rfl ?_
          refine j_iald C n_3 hm dX11_moon_67 (fun hm => ?_)
          refine j_istore C [(6, .int (hI h 3 (ix (u5 + v3)))), (5, .int (u5 + v3)), (0, .ref (G.1 + 0)), (1, .int v1), (2, .int v2), (3, .int v3), (4, .int v4)] dX11_moon_68 (by decide) rfl ?_
          refine j_aload_n C 2 dX11_moon_70 rfl rfl ?_
          refine j_gS C f_X11_10 n_0 q_0_0 dX11_moon_71 ?_
          refine j_gS C f_X11_139 n_1 q_1_1 dX11_moon_74 ?_
          refine j_iload C 1 dX11_moon_77 rfl ?_
          refine j_iload C 6 dX11_moon_79 rfl ?_
          refine j_iast C n_3 hm dX11_moon_81 (fun hm => ?_)
          refine j_aload_n C 2 dX11_moon_82 rfl rfl ?_
          refine j_cV C l_X11_119 [] [] (fun _ => none) (fun u6 => u6) (fun u6 => []) n_0 hm (fun l u hu => c_Race_forgetLevels hu) rfl (Nat.le_of_ble_eq_true rfl) rfl (Nat.le_of_ble_eq_true rfl) (Nat.le_of_ble_eq_true rfl) (fun _ => rfl) dX11_moon_83 (fun u6 hm => ?_)
          refine j_aload_n C 2 dX11_moon_86 rfl rfl ?_
          refine j_iload C 0 dX11_moon_87 rfl ?_
          refine j_cV C l_X11_122 [.int (hI h 3 (ix (u5 + v3)))] [] (fun u7 => some (.int u7.1)) (fun u7 => u7.2) (fun u7 => [.int u7.1]) n_0 hm (fun l u hu => c_Race_grant hu) rfl (Nat.le_of_ble_eq_true rfl) rfl (Nat.le_of_ble_eq_true rfl) (Nat.le_of_ble_eq_true rfl) (fun _ => rfl) dX11_moon_89 (fun u7 hm => ?_)
          obtain rfl := Option.some.inj hm
          exact j_iret C O dX11_moon_92
theorem c_Race_moon {G : jG} {l : Launch} {v1 : Int32} {v2 : Int32} {v3 : Int32} {v4 : Int32} {h : Hp} {out : (Int32 × Hp)} (hm : s_Race_moon v1 v2 v3 v4 h = some out) : mt G l yX11_moon cX11_moon 7 (some .int) 5 154 [.ref (G.1 + 0), .int v1, .int v2, .int v3, .int v4] h (some (.int out.1)) out.2 :=
  mt_of (by decide) (Nat.le_of_ble_eq_true rfl) _ rfl (fun X _ C O => w_Race_moon C O hm)
noncomputable def s_Race_status (h : Hp) : Option Int32 :=
  some (hI h 0 12)
def O_Race_status (G : jG) (X : jX) (h : Hp) (out : Int32) : Prop := jO G X (some .int) (some (.int out)) h
theorem w_Race_status {G : jG} {X : jX} (C : jC G X cX11_status 1 RX11 1 70) {h : Hp} {out : Int32} (O : (O_Race_status G X h) out) (hm : s_Race_status h = some out) : J G X 0 [(0, .ref (G.1 + 0))] [] h := by
  unfold s_Race_status at hm
  refine j_aload_n C 0 dX11_status_0 rfl rfl ?_
  refine j_gI C f_X11_92 n_0 dX11_status_1 ?_
  obtain rfl := Option.some.inj hm
  exact j_iret C O dX11_status_4
theorem c_Race_status {G : jG} {l : Launch} {h : Hp} {out : Int32} (hm : s_Race_status h = some out) : mt G l yX11_status cX11_status 1 (some .int) 1 70 [.ref (G.1 + 0)] h (some (.int out)) h :=
  mt_of (by decide) (Nat.le_of_ble_eq_true rfl) _ rfl (fun X _ C O => w_Race_status C O hm)
