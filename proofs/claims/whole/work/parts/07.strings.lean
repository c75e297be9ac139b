/-! the JDK's String: length and charAt of a constant -/
def kc {α : Type} (t : Nat) (F : Option α) : Option α := if t < nKS then F else none
theorem kc_inv {α : Type} {t : Nat} {F : Option α} {x : α} (h : kc t F = some x) : t < nKS ∧ F = some x := by
  unfold kc at h
  split at h
  · rename_i q
    exact ⟨q, h⟩
  · cases h
def sc_c (t k : Nat) : Int32 := (bytKS.getD t []).getD k 0
def cW (own : String) (index : Nat) (y : MethodName) (bytes : ByteArray) (nL : Nat) (ret : Option FieldType) (n : Nat) : Prop :=
  Cond.methodLink own index y ∈ lw_g ∧ Cond.instanceMethod y ∈ lw_g ∧ Cond.selects RJ0 y y ∈ lw_g ∧ Cond.initialized RJ0 ∈ lw_g ∧ Cond.code y bytes nL ret ∈ lw_g ∧ (y.cls = RJ0 ∧ y.cls ≠ "java/lang/invoke/MethodHandle" ∧ y.cls ≠ "java/lang/invoke/VarHandle" ∧ (parseMethodDescriptor y.desc).map (fun d => d.parameters.length) = some n)
section strs
variable {G : jG} {X : jX} {cc : ByteArray} {nL : Nat} {own : String} {fr lo : Nat} {pc : Nat} {L L' : List (Nat × Value)} {st : List Value} {h : Hp} {α : Type} {F : Option α} {x_ : α}
theorem j_cW (C : jC G X cc nL own fr lo) {index t n nL' fr' lo' : Nat} {y' : MethodName} {bytes : ByteArray} {ret : Option FieldType} (c : cW own index y' bytes nL' ret n) (As rest : List Value) (v : Value) (ht : t < nKS) (hM : ∀ l, mt G l y' bytes nL' ret fr' lo' (.ref (skg G t) :: As) h (some v) h) (hst : st = As.reverse ++ .ref (skg G t) :: rest) (hw : (rest.map fun v => v.category).sum ≤ 8) (hn : As.length = n) (hfr : fr' + 1 ≤ fr) (hlo : 8 + (nL' + 11) + lo' ≤ lo) (d : decode cc pc = .ok (.invokevirtual index, 3)) (K : J G X (pc + 3) L (v :: rest) h) : J G X pc L st h := by
  refine J_mk K.1 fun Y y H locs ls a1 a2 a3 a4 a5 => ?_
  obtain ⟨c1, c2, c3, c4, c5, c6⟩ := c
  obtain ⟨hmono, hMet⟩ := hM (xl Y)
  refine W.sz (fun hz => ?_)
  refine j_back (o := some v) y a2 a3 a4 a5 hmono rfl (va_runV (C := RJ0) (As := As) (rest := rest) ⟨(C Y y).x, (C Y y).b, (C Y y).ml, (C Y y).ow, (C Y y).ts⟩ hMet (cwV n (C Y y).ts (g_of c1 (g_of c2 (g_of c3 (g_of c4 (g_of c5 g_self))))) rfl rfl rfl c6 ⟨by rw [(C Y y).fr_]; exact hfr, by rw [(C Y y).lo_]; exact hlo⟩) ⟨px_blind, vk_recv (C Y y).st.2.1 ht a2, fun U hU hW => ⟨rfl, j_start (C Y y) a1 a2 (j_size (C Y y) a1 a2 a4 hz) U hU hW⟩⟩ rfl hn (by rw [a3.1]; exact (C Y y).nl) hst (lv_room hw) d (j_room (C Y y) a4 a5 hmono K.1)) K
theorem j_sval (C : jC G X cc nL own fr lo) {index t : Nat} (ht : t < nKS) (w : Cond.fieldLink own index "java/lang/String" "value" "[B" ∈ lw_g) (d : decode cc pc = .ok (.getfield index, 3)) (K : J G X (pc + 3) L (.ref (svg G t) :: st) h) : J G X pc L (.ref (skg G t) :: st) h :=
  J_mk K.1 fun Y y H locs ls a1 a2 a3 a4 a5 => vk_getf (C Y y).x (C Y y).b ((C Y y).st.2.1.1 t ht).2.2.1 a2 (C Y y).ow ((C Y y).ts _ w) (fun _ z => z) d (K.2 Y y H locs ls a1 a2 a3 a4 a5)
theorem j_scod (C : jC G X cc nL own fr lo) {index t : Nat} (ht : t < nKS) (w : Cond.fieldLink own index "java/lang/String" "coder" "B" ∈ lw_g) (d : decode cc pc = .ok (.getfield index, 3)) (K : J G X (pc + 3) L (.int 0 :: st) h) : J G X pc L (.ref (skg G t) :: st) h :=
  J_mk K.1 fun Y y H locs ls a1 a2 a3 a4 a5 => vk_getf (C Y y).x (C Y y).b ((C Y y).st.2.1.1 t ht).2.1 a2 (C Y y).ow ((C Y y).ts _ w) (fun _ z => z) d (K.2 Y y H locs ls a1 a2 a3 a4 a5)
theorem j_sblen (C : jC G X cc nL own fr lo) {t : Nat} (ht : t < nKS) (d : decode cc pc = .ok (.arraylength, 1)) (K : J G X (pc + 1) L (.int (nI (lenKS.getD t 0)) :: st) h) : J G X pc L (.ref (svg G t) :: st) h :=
  J_mk K.1 fun Y y H locs ls a1 a2 a3 a4 a5 => va_tlen (C Y y).x (C Y y).b ((C Y y).st.2.1.1 t ht).2.2.2 a2 rfl d (K.2 Y y H locs ls a1 a2 a3 a4 a5)
theorem j_sbald (C : jC G X cc nL own fr lo) {t : Nat} {i : Int32} (ht : t < nKS) (hi : vp_in i (lenKS.getD t 0)) (d : decode cc pc = .ok (.baload, 1)) (K : J G X (pc + 1) L (.int (sc_c t (ix i)) :: st) h) : J G X pc L (.int i :: .ref (svg G t) :: st) h :=
  J_mk K.1 fun Y y H locs ls a1 a2 a3 a4 a5 => va_tb (C Y y).x (C Y y).b ((C Y y).st.2.1.1 t ht).2.2.2 a2 hi rfl d (K.2 Y y H locs ls a1 a2 a3 a4 a5)
theorem j_gsc (C : jC G X cc nL own fr lo) {index : Nat} (w : Cond.fieldLink own index "java/lang/String" "COMPACT_STRINGS" "Z" ∈ lw_g) (d : decode cc pc = .ok (.getstatic index, 3)) (K : J G X (pc + 3) L (.int 1 :: st) h) : J G X pc L st h :=
  J_mk K.1 fun Y y H locs ls a1 a2 a3 a4 a5 => va_gets (C Y y).x (C Y y).b (C Y y).st.2.2.1 a2 (C Y y).ow ((C Y y).ts _ w) (fun _ z => z) d (K.2 Y y H locs ls a1 a2 a3 a4 a5)
theorem j_gsq (C : jC G X cc nL own fr lo) {index : Nat} (w : Cond.fieldLink own index "jdk/internal/util/Preconditions" "SIOOBE_FORMATTER" "Ljava/util/function/BiFunction;" ∈ lw_g) (d : decode cc pc = .ok (.getstatic index, 3)) (K : ∀ o, J G X (pc + 3) L (va_rf o :: st) h) : J G X pc L st h :=
  J_mk (K none).1 fun Y y H locs ls a1 a2 a3 a4 a5 => by
    rcases (C Y y).st.2.2.2.1 with z | ⟨t, z⟩
    · exact va_gets (C Y y).x (C Y y).b z a2 (C Y y).ow ((C Y y).ts _ w) (fun _ z => z) d ((K none).2 Y y H locs ls a1 a2 a3 a4 a5)
    · exact va_gets (C Y y).x (C Y y).b z a2 (C Y y).ow ((C Y y).ts _ w) (fun _ z => z) d ((K (some t)).2 Y y H locs ls a1 a2 a3 a4 a5)
theorem j_nret (C : jC G X cc nL own fr lo) {v : Int32} {ty : FieldType} (O : jO G X (some ty) (some (.int v)) h) (hb : narrow ty (.int v) = .int v) (d : decode cc pc = .ok (.ireturn, 1)) : J G X pc L [.int v] h := by
  obtain ⟨o1, o2, O⟩ := O
  refine J_mk ⟨by rw [o1]; exact Nat.le_refl _, by rw [o2]; exact Nat.le_refl _⟩ fun Y y H locs ls a1 a2 a3 a4 a5 => ?_
  obtain ⟨o3, o4, o5, o6, o7⟩ := O Y y
  rw [o5, o3, o4, Nat.zero_add, Nat.zero_add]
  exact W.zret (C Y y).x (C Y y).b o6 hb (fun t ht hW => ⟨⟨rfl, by rw [ht]; exact a1⟩, a2.F ht⟩) a2.2.2 d o7
end strs
section strs2
variable {G : jG} {l : Launch} {h : Hp}
theorem c_Str_coder {t : Nat} (ht : t < nKS) : mt G l yJ0_coder_7d493 cJ0_coder_7d493 1 (some .byte) 1 70 [.ref (skg G t)] h (some (.int 0)) h :=
  mt_of (by decide) (Nat.le_of_ble_eq_true rfl) _ rfl (fun X _ C O => by
    refine j_gsc C wd_719 dJ0_coder_7d493_0 ?_
    refine j_ifeq C 13 dJ0_coder_7d493_3 (by decide) (α := Unit) (A := none) (B := some ()) (x_ := ()) (by decide) (fun e => by cases e) (fun _ => ?_)
    refine j_aload_n C 0 dJ0_coder_7d493_6 rfl rfl ?_
    refine j_scod C ht wd_1950 dJ0_coder_7d493_7 ?_
    refine j_goto C 14 dJ0_coder_7d493_10 (by decide) ?_
    exact j_nret C O (by decide) dJ0_coder_7d493_14)
theorem c_Str_latin {t : Nat} (ht : t < nKS) : mt G l yJ0_isLatin1_aae02 cJ0_isLatin1_aae02 1 (some .boolean) 1 70 [.ref (skg G t)] h (some (.int 1)) h :=
  mt_of (by decide) (Nat.le_of_ble_eq_true rfl) _ rfl (fun X _ C O => by
    refine j_gsc C wd_719 dJ0_isLatin1_aae02_0 ?_
    refine j_ifeq C 17 dJ0_isLatin1_aae02_3 (by decide) (α := Unit) (A := none) (B := some ()) (x_ := ()) (by decide) (fun e => by cases e) (fun _ => ?_)
    refine j_aload_n C 0 dJ0_isLatin1_aae02_6 rfl rfl ?_
    refine j_scod C ht wd_1950 dJ0_isLatin1_aae02_7 ?_
    refine j_ifne C 17 dJ0_isLatin1_aae02_10 (by decide) (α := Unit) (A := some ()) (B := none) (x_ := ()) (by decide) (fun _ => ?_) (fun e => by cases e)
    refine j_iconst C 1 dJ0_isLatin1_aae02_13 (by decide) ?_
    refine j_goto C 18 dJ0_isLatin1_aae02_14 (by decide) ?_
    exact j_nret C O (by decide) dJ0_isLatin1_aae02_18)
theorem l_J0_335 : cW RJ0 335 yJ0_coder_7d493 cJ0_coder_7d493 1 (some .byte) 0 := ⟨wd_715, wd_716, wd_717, wd_122, wd_718, by decide +kernel⟩
theorem l_J0_492 : cW RJ0 492 yJ0_isLatin1_aae02 cJ0_isLatin1_aae02 1 (some .boolean) 0 := ⟨wd_725, wd_726, wd_727, wd_122, wd_728, by decide +kernel⟩
theorem c_Str_length {t : Nat} (ht : t < nKS) : mt G l yJ0_length_8abf5 cJ0_length_8abf5 1 (some .int) 2 100 [.ref (skg G t)] h (some (.int (nI (lenKS.getD t 0)))) h :=
  mt_of (by decide) (Nat.le_of_ble_eq_true rfl) _ rfl (fun X _ C O => by
    refine j_aload_n C 0 dJ0_length_8abf5_0 rfl rfl ?_
    refine j_sval C ht wd_1949 dJ0_length_8abf5_1 ?_
    refine j_sblen C ht dJ0_length_8abf5_4 ?_
    refine j_aload_n C 0 dJ0_length_8abf5_5 rfl rfl ?_
    refine j_cW C l_J0_335 [] [.int (nI (lenKS.getD t 0))] (.int 0) ht (fun l => c_Str_coder ht) rfl (Nat.le_of_ble_eq_true rfl) rfl (Nat.le_of_ble_eq_true rfl) (Nat.le_of_ble_eq_true rfl) dJ0_length_8abf5_6 ?_
    refine j_ishr C dJ0_length_8abf5_9 ?_
    have e : z_shr (nI (lenKS.getD t 0)) 0 = nI (lenKS.getD t 0) := sb_shr0 _
    rw [e]
    exact j_iret C O dJ0_length_8abf5_10)
theorem c_Pre {i n : Int32} {o : Option Nat} (h1 : ¬ i < 0) (h2 : i < n) : mt G l yJ3_checkIndex_8e157 cJ3_checkIndex_8e157 3 (some .int) 1 70 [.int i, .int n, va_rf o] h (some (.int i)) h := by
  have key : ∀ v : Value, (lg_sl [.int i, .int n, v]).length ≤ 3 → mt G l yJ3_checkIndex_8e157 cJ3_checkIndex_8e157 3 (some .int) 1 70 [.int i, .int n, v] h (some (.int i)) h := fun v hv =>
    mt_of (by decide) hv [(0, .int i), (1, .int n), (2, v)] rfl (fun X _ C O => by
      refine j_iload_n C 0 dJ3_checkIndex_8e157_0 rfl rfl ?_
      refine j_iflt C 9 dJ3_checkIndex_8e157_1 (by decide) (α := Unit) (A := none) (B := some ()) (x_ := ()) (if_neg h1) (fun e => by cases e) (fun _ => ?_)
      refine j_iload_n C 0 dJ3_checkIndex_8e157_4 rfl rfl ?_
      refine j_iload_n C 1 dJ3_checkIndex_8e157_5 rfl rfl ?_
      refine j_if_icmplt C 16 dJ3_checkIndex_8e157_6 (by decide) (α := Unit) (A := some ()) (B := none) (x_ := ()) (if_pos h2) (fun _ => ?_) (fun e => by cases e)
      refine j_iload_n C 0 dJ3_checkIndex_8e157_16 rfl rfl ?_
      exact j_iret C O dJ3_checkIndex_8e157_17)
  cases o with
  | none => exact key .null (Nat.le_of_ble_eq_true rfl)
  | some a => exact key (.ref a) (Nat.le_of_ble_eq_true rfl)
theorem l_J0_1059 : cS RJ0 1059 yJ3_checkIndex_8e157 cJ3_checkIndex_8e157 3 (some .int) 3 := ⟨wd_737, wd_738, wd_124, wd_739, by decide +kernel⟩
theorem c_Chk {i n : Int32} (h1 : ¬ i < 0) (h2 : i < n) : mt G l yJ0_checkIndex_df160 cJ0_checkIndex_df160 2 none 2 100 [.int i, .int n] h none h :=
  mt_of (by decide) (Nat.le_of_ble_eq_true rfl) _ rfl (fun X _ C O => by
    refine j_iload_n C 0 dJ0_checkIndex_df160_0 rfl rfl ?_
    refine j_iload_n C 1 dJ0_checkIndex_df160_1 rfl rfl ?_
    refine j_gsq C wd_735 dJ0_checkIndex_df160_2 (fun o => ?_)
    refine j_cS C (e := some ()) (F := fun _ => some ()) (x_ := ()) l_J0_1059 [.int i, .int n, va_rf o] [] (fun _ => some (.int i)) (fun _ => h) (fun _ => [.int i]) rfl (fun l u _ => c_Pre h1 h2) rfl (Nat.le_of_ble_eq_true rfl) rfl (Nat.le_of_ble_eq_true rfl) (Nat.le_of_ble_eq_true rfl) (fun _ => rfl) dJ0_checkIndex_df160_5 (fun _ _ => ?_)
    refine j_pop C dJ0_checkIndex_df160_8 rfl ?_
    exact j_vret C O dJ0_checkIndex_df160_9)
theorem l_J1_9 : cS RJ1 9 yJ0_checkIndex_df160 cJ0_checkIndex_df160 2 none 2 := ⟨wd_732, wd_733, wd_122, wd_734, by decide +kernel⟩
theorem sc_in {t : Nat} (ht : t < nKS) {i : Int32} (hi : vp_in i (lenKS.getD t 0)) : ¬ i < 0 ∧ i < nI (lenKS.getD t 0) := by
  refine ⟨fun z => hi (Or.inl z), ?_⟩
  have h1 : i.toNatClampNeg < lenKS.getD t 0 := Nat.not_le.mp fun z => hi (Or.inr z)
  have h2 : ∀ t, t < nKS → lenKS.getD t 0 < 100 := by decide
  have h3 := h2 t ht
  obtain ⟨j, hj, rfl⟩ := nI_of (fun z => hi (Or.inl z))
  rw [nI_clamp hj] at h1
  exact nI_lt h1 (by omega)
theorem sc_chr {t k : Nat} (ht : t < nKS) : z_i2c (sc_c t k &&& 255) = sc_c t k ∧ narrow .char (.int (sc_c t k)) = .int (sc_c t k) := by
  have key : ∀ b : Int32, b ∈ bytKS.flatten ∨ b = 0 → z_i2c (b &&& 255) = b ∧ narrow .char (.int b) = .int b := by
    intro b hb
    rcases hb with hb | rfl
    · revert b
      decide +kernel
    · decide +kernel
  apply key
  unfold sc_c
  have hm : bytKS.getD t [] ∈ bytKS := by
    rw [List.getD_eq_getElem?_getD]
    have : t < bytKS.length := ht
    rw [List.getElem?_eq_getElem this]
    exact List.getElem_mem this
  generalize bytKS.getD t [] = l at hm ⊢
  by_cases hk : k < l.length
  · left
    rw [List.mem_flatten]
    refine ⟨l, hm, ?_⟩
    rw [List.getD_eq_getElem?_getD, List.getElem?_eq_getElem hk]
    exact List.getElem_mem hk
  · right
    rw [List.getD_eq_getElem?_getD, List.getElem?_eq_none (by omega)]
    rfl
theorem c_Lat {t : Nat} {i : Int32} (ht : t < nKS) (hi : vp_in i (lenKS.getD t 0)) : mt G l yJ1_charAt_3b067 cJ1_charAt_3b067 2 (some .char) 3 150 [.ref (svg G t), .int i] h (some (.int (sc_c t (ix i)))) h :=
  mt_of (by decide) (Nat.le_of_ble_eq_true rfl) _ rfl (fun X _ C O => by
    refine j_iload_n C 1 dJ1_charAt_3b067_0 rfl rfl ?_
    refine j_aload_n C 0 dJ1_charAt_3b067_1 rfl rfl ?_
    refine j_sblen C ht dJ1_charAt_3b067_2 ?_
    refine j_cS C (e := some ()) (F := fun _ => some ()) (x_ := ()) l_J1_9 [.int i, .int (nI (lenKS.getD t 0))] [] (fun _ => none) (fun _ => h) (fun _ => []) rfl (fun l u _ => c_Chk (sc_in ht hi).1 (sc_in ht hi).2) rfl (Nat.le_of_ble_eq_true rfl) rfl (Nat.le_of_ble_eq_true rfl) (Nat.le_of_ble_eq_true rfl) (fun _ => rfl) dJ1_charAt_3b067_3 (fun _ _ => ?_)
    refine j_aload_n C 0 dJ1_charAt_3b067_6 rfl rfl ?_
    refine j_iload_n C 1 dJ1_charAt_3b067_7 rfl rfl ?_
    refine j_sbald C ht hi dJ1_charAt_3b067_8 ?_
    refine j_sipush C 255 dJ1_charAt_3b067_9 (by decide) ?_
    refine j_iand C dJ1_charAt_3b067_12 ?_
    refine j_i2c C dJ1_charAt_3b067_13 ?_
    rw [(sc_chr ht).1]
    exact j_nret C O (sc_chr ht).2 dJ1_charAt_3b067_14)
theorem l_J0_495 : cS RJ0 495 yJ1_charAt_3b067 cJ1_charAt_3b067 2 (some .char) 2 := ⟨wd_729, wd_730, wd_123, wd_731, by decide +kernel⟩
theorem c_Str_charAt {t : Nat} {i : Int32} (ht : t < nKS) (hi : vp_in i (lenKS.getD t 0)) : mt G l yJ0_charAt_5068e cJ0_charAt_5068e 2 (some .char) 4 200 [.ref (skg G t), .int i] h (some (.int (sc_c t (ix i)))) h :=
  mt_of (by decide) (Nat.le_of_ble_eq_true rfl) _ rfl (fun X _ C O => by
    refine j_aload_n C 0 dJ0_charAt_5068e_0 rfl rfl ?_
    refine j_cW C l_J0_492 [] [] (.int 1) ht (fun l => c_Str_latin ht) rfl (Nat.le_of_ble_eq_true rfl) rfl (Nat.le_of_ble_eq_true rfl) (Nat.le_of_ble_eq_true rfl) dJ0_charAt_5068e_1 ?_
    refine j_ifeq C 16 dJ0_charAt_5068e_4 (by decide) (α := Unit) (A := none) (B := some ()) (x_ := ()) (by decide) (fun e => by cases e) (fun _ => ?_)
    refine j_aload_n C 0 dJ0_charAt_5068e_7 rfl rfl ?_
    refine j_sval C ht wd_1949 dJ0_charAt_5068e_8 ?_
    refine j_iload_n C 1 dJ0_charAt_5068e_11 rfl rfl ?_
    refine j_cS C (e := some ()) (F := fun _ => some ()) (x_ := ()) l_J0_495 [.ref (svg G t), .int i] [] (fun _ => some (.int (sc_c t (ix i)))) (fun _ => h) (fun _ => [.int (sc_c t (ix i))]) rfl (fun l u _ => c_Lat ht hi) rfl (Nat.le_of_ble_eq_true rfl) rfl (Nat.le_of_ble_eq_true rfl) (Nat.le_of_ble_eq_true rfl) (fun _ => rfl) dJ0_charAt_5068e_12 (fun _ _ => ?_)
    exact j_nret C O (sc_chr ht).2 dJ0_charAt_5068e_15)
theorem l_X3_154 : cW RX3 154 yJ0_length_8abf5 cJ0_length_8abf5 1 (some .int) 0 := ⟨wd_711, wd_712, wd_713, wd_122, wd_714, by decide +kernel⟩
theorem l_X3_159 : cW RX3 159 yJ0_charAt_5068e cJ0_charAt_5068e 2 (some .char) 1 := ⟨wd_721, wd_722, wd_723, wd_122, wd_724, by decide +kernel⟩
variable {X : jX} {cc : ByteArray} {nL : Nat} {fr lo : Nat} {pc : Nat} {L : List (Nat × Value)} {α : Type} {F : Option α} {x_ : α}
theorem j_strlen (C : jC G X cc nL RX3 fr lo) {t : Nat} (rest : List Value) (hm : kc t F = some x_) (hw : (rest.map fun v => v.category).sum ≤ 8) (hfr : 2 + 1 ≤ fr) (hlo : 8 + (1 + 11) + 100 ≤ lo) (d : decode cc pc = .ok (.invokevirtual 154, 3)) (K : F = some x_ → J G X (pc + 3) L (.int (nI (lenKS.getD t 0)) :: rest) h) : J G X pc L (.ref (skg G t) :: rest) h := by
  obtain ⟨ht, hm⟩ := kc_inv hm
  exact j_cW C l_X3_154 [] rest _ ht (fun l => c_Str_length ht) rfl hw rfl hfr hlo d (K hm)
theorem j_strat (C : jC G X cc nL RX3 fr lo) {t : Nat} {i : Int32} (rest : List Value) (hm : kc t (ib i (lenKS.getD t 0) F) = some x_) (hw : (rest.map fun v => v.category).sum ≤ 8) (hfr : 4 + 1 ≤ fr) (hlo : 8 + (2 + 11) + 200 ≤ lo) (d : decode cc pc = .ok (.invokevirtual 159, 3)) (K : F = some x_ → J G X (pc + 3) L (.int (sc_c t (ix i)) :: rest) h) : J G X pc L (.int i :: .ref (skg G t) :: rest) h := by
  obtain ⟨ht, hm⟩ := kc_inv hm
  obtain ⟨hi, hm⟩ := ib_inv hm
  exact j_cW C l_X3_159 [.int i] rest _ ht (fun l => c_Str_charAt ht hi) rfl hw rfl hfr hlo d (K hm)
end strs2

