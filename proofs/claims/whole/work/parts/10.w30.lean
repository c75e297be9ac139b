noncomputable def s_Ways_lowest_9 (v0 : Int64) (v2 : Int32) (v3 : Int32) (h : Hp) : Option ((Int64 × Int32 × Int32) ⊕ Int32) :=
  if ((50 : Int32)) ≤ v3 then
    some (.inr (v2))
  else
    (s_Ways_has v0 v3 h).bind fun u1 => if u1 = 0 then
      some (.inl (v0, v2, (v3 + (1 : Int32))))
    else
      some (.inr (v3))
noncomputable def s_Ways_lowest (v0 : Int64) (v2 : Int32) (h : Hp) : Option Int32 :=
  lt (z_max ((0 : Int32)) (v2 - ((10 : Int32)))) fun x1 => lp (fun q => s_Ways_lowest_9 q.1 q.2.1 q.2.2 h) (v0, v2, x1)
def O_Ways_lowest (G : jG) (X : jX) (h : Hp) (out : Int32) : Prop := jO G X (some .int) (some (.int out)) h
def P_Ways_lowest_9 (G : jG) (X : jX) (h : Hp) (q : Int64 × Int32 × Int32) : Prop := J G X 9 [(0, .long q.1), (2, .int q.2.1), (3, .int q.2.2)] [] h
def O_Ways_lowest_9 (G : jG) (X : jX) (h : Hp) (t : ((Int64 × Int32 × Int32) ⊕ Int32)) : Prop := Sum.elim (P_Ways_lowest_9 G X h) (O_Ways_lowest G X h) t
theorem w_Ways_lowest_9 {G : jG} {X : jX} (C : jC G X cX10_lowest 4 RX10 2 92) {v0 : Int64} {v2 : Int32} {v3 : Int32} {h : Hp} {out : ((Int64 × Int32 × Int32) ⊕ Int32)} (O : (O_Ways_lowest_9 G X h) out) (hm : s_Ways_lowest_9 v0 v2 v3 h = some out) : J G X 9 [(0, .long v0), (2, .int v2), (3, .int v3)] [] h := by
  unfold s_Ways_lowest_9 at hm
  refine j_iload_n C 2 dX10_lowest_9 rfl rfl ?_
  refine j_bipush C 50 dX10_lowest_10 (by decide) ?_
  refine j_if_icmpge C 31 dX10_lowest_12 (by decide) hm (fun hm => ?_) (fun hm => ?_)
  · refine j_iload_n C 1 dX10_lowest_31 rfl rfl ?_
    obtain rfl := Option.some.inj hm
    exact j_iret C O dX10_lowest_32
  · refine j_lload_n C 0 dX10_lowest_15 rfl rfl ?_
    refine j_iload_n C 2 dX10_lowest_16 rfl rfl ?_
    refine j_cS C l_X10_103 [.long v0, .int v3] [] (fun u1 => some (.int u1)) (fun _ => h) (fun u1 => [.int u1]) hm (fun l u hu => c_Ways_has hu) rfl (Nat.le_of_ble_eq_true rfl) rfl (Nat.le_of_ble_eq_true rfl) (Nat.le_of_ble_eq_true rfl) (fun _ => rfl) dX10_lowest_17 (fun u1 hm => ?_)
    refine j_ifeq C 25 dX10_lowest_20 (by decide) hm (fun hm => ?_) (fun hm => ?_)
    · refine j_iinc C 2 [(3, .int (v3 + (1 : Int32))), (0, .long v0), (2, .int v2)] dX10_lowest_25 rfl (add_lit (by decide)) (by decide) rfl ?_
      refine j_goto C 9 dX10_lowest_28 (by decide) ?_
      obtain rfl := Option.some.inj hm
      refine j_sub (L' := [(0, .long v0), (2, .int v2), (3, .int (v3 + (1 : Int32)))]) [1, 2, 0] rfl ?_
      exact O
    · refine j_iload_n C 2 dX10_lowest_23 rfl rfl ?_
      obtain rfl := Option.some.inj hm
      exact j_iret C O dX10_lowest_24
theorem k_Ways_lowest_9 {G : jG} {X : jX} (C : jC G X cX10_lowest 4 RX10 2 92) {v0 : Int64} {v2 : Int32} {v3 : Int32} {h : Hp} {out : Int32} (O : (O_Ways_lowest G X h) out) (hm : lp (fun q => s_Ways_lowest_9 q.1 q.2.1 q.2.2 h) (v0, v2, v3) = some out) : J G X 9 [(0, .long v0), (2, .int v2), (3, .int v3)] [] h :=
  lp_ok (P := P_Ways_lowest_9 G X h) (O := (O_Ways_lowest G X h)) (fun q r hm O => w_Ways_lowest_9 C O hm) hm O
theorem w_Ways_lowest {G : jG} {X : jX} (C : jC G X cX10_lowest 4 RX10 2 92) {v0 : Int64} {v2 : Int32} {h : Hp} {out : Int32} (O : (O_Ways_lowest G X h) out) (hm : s_Ways_lowest v0 v2 h = some out) : J G X 0 [(0, .long v0), (2, .int v2)] [] h := by
  unfold s_Ways_lowest at hm
  refine j_iconst C 0 dX10_lowest_0 (by decide) ?_
  refine j_iload_n C 1 dX10_lowest_1 rfl rfl ?_
  refine j_bipush C 10 dX10_lowest_2 (by decide) ?_
  refine j_isub C dX10_lowest_4 ?_
  refine j_mmax C wd_1068 wd_936 wd_126 wd_937 (Nat.le_of_ble_eq_true rfl) (Nat.le_of_ble_eq_true rfl) dX10_lowest_5 ?_
  refine j_nmI hm (fun x1 hm => ?_)
  refine j_istore_n C [(3, .int x1), (0, .long v0), (2, .int v2)] dX10_lowest_8 rfl (by decide) rfl ?_
  refine j_sub (L' := [(0, .long v0), (2, .int v2), (3, .int x1)]) [1, 2, 0] rfl ?_
  exact k_Ways_lowest_9 C O hm
theorem c_Ways_lowest {G : jG} {l : Launch} {v0 : Int64} {v2 : Int32} {h : Hp} {out : Int32} (hm : s_Ways_lowest v0 v2 h = some out) : mt G l yX10_lowest cX10_lowest 4 (some .int) 2 92 [.long v0, .int v2] h (some (.int out)) h :=
  mt_of (by decide) (Nat.le_of_ble_eq_true rfl) _ rfl (fun X I C O => w_Ways_lowest C O hm)
noncomputable def s_Ways_cellOnWay_28 (h : Hp) : Option (Int32 × Hp) :=
  some ((-1 : Int32), h)
noncomputable def s_Ways_cellOnWay_86 (v4 : Int32) (v6 : Int32) (v7 : Int32) (h : Hp) : Option ((Int32 × Int32 × Int32 × Hp) ⊕ (Int32 × Hp)) :=
  if v4 ≤ v7 then
    some (.inr (v6, h))
  else
    (s_Ways_reached (z_lshl ((1 : Int64)) v6) v7 h).bind fun u1 => ib (v7 + ((1 : Int32))) 144 <| (s_Ways_lowest (u1 &&& (hL h 66 (ix (v7 + ((1 : Int32)))))) v6 h).bind fun u2 => some (.inl (v4, u2, (v7 + (1 : Int32)), h))
noncomputable def s_Ways_cellOnWay_46 (v1 : Int32) (v2 : Int32) (v4 : Int32) (v6 : Int32) (h : Hp) : Option ((Int32 × Int32 × Int32 × Int32 × Hp) ⊕ (Int32 × Hp)) :=
  if v6 < v1 then
    inr (lp (fun q => s_Ways_cellOnWay_86 q.1 q.2.1 q.2.2.1 q.2.2.2) (v4, v2, v1, h))
  else
    ib (v6 + ((1 : Int32))) 144 <| (s_Ways_reaching (hL h 66 (ix (v6 + ((1 : Int32))))) v6 h).bind fun u1 => ib v6 144 <| some (.inl (v1, v2, v4, (v6 + (-1 : Int32)), (sL h 66 (ix v6) u1)))
noncomputable def s_Ways_cellOnWay (v1 : Int32) (v2 : Int32) (v3 : Int32) (v4 : Int32) (h : Hp) : Option (Int32 × Hp) :=
  (s_Ways_firstStepAt v1 v2 v3 h).bind fun u1 => if u1 = ((-1 : Int32)) then
    s_Ways_cellOnWay_28 h
  else
    if v4 < v1 then
      s_Ways_cellOnWay_28 h
    else
      if v4 ≤ u1 then
        ib u1 144 <| lp (fun q => s_Ways_cellOnWay_46 q.1 q.2.1 q.2.2.1 q.2.2.2.1 q.2.2.2.2) (v1, v2, v4, (u1 - ((1 : Int32))), (sL h 66 (ix u1) (z_lshl ((1 : Int64)) v3)))
      else
        s_Ways_cellOnWay_28 h
def O_Ways_cellOnWay (G : jG) (X : jX) (out : (Int32 × Hp)) : Prop := jO G X (some .int) (some (.int out.1)) out.2
def P_Ways_cellOnWay_46 (G : jG) (X : jX) (q : Int32 × Int32 × Int32 × Int32 × Hp) : Prop := J G X 46 [(0, .ref (G.1 + 58)), (1, .int q.1), (2, .int q.2.1), (4, .int q.2.2.1), (6, .int q.2.2.2.1)] [] q.2.2.2.2
def O_Ways_cellOnWay_46 (G : jG) (X : jX) (t : ((Int32 × Int32 × Int32 × Int32 × Hp) ⊕ (Int32 × Hp))) : Prop := Sum.elim (P_Ways_cellOnWay_46 G X) (O_Ways_cellOnWay G X) t
def P_Ways_cellOnWay_86 (G : jG) (X : jX) (q : Int32 × Int32 × Int32 × Hp) : Prop := J G X 86 [(0, .ref (G.1 + 58)), (4, .int q.1), (6, .int q.2.1), (7, .int q.2.2.1)] [] q.2.2.2
def O_Ways_cellOnWay_86 (G : jG) (X : jX) (t : ((Int32 × Int32 × Int32 × Hp) ⊕ (Int32 × Hp))) : Prop := Sum.elim (P_Ways_cellOnWay_86 G X) (O_Ways_cellOnWay G X) t
theorem w_Ways_cellOnWay_28 {G : jG} {X : jX} (C : jC G X cX10_cellOnWay 8 RX10 3 123) {h : Hp} {out : (Int32 × Hp)} (O : (O_Ways_cellOnWay G X) out) (hm : s_Ways_cellOnWay_28 h = some out) : J G X 28 [] [] h := by
  unfold s_Ways_cellOnWay_28 at hm
  refine j_iconst C (-1 : Int32) dX10_cellOnWay_28 (by decide) ?_
  obtain rfl := Option.some.inj hm
  exact j_iret C O dX10_cellOnWay_29
theorem w_Ways_cellOnWay_86 {G : jG} {X : jX} (C : jC G X cX10_cellOnWay 8 RX10 3 123) {v4 : Int32} {v6 : Int32} {v7 : Int32} {h : Hp} {out : ((Int32 × Int32 × Int32 × Hp) ⊕ (Int32 × Hp))} (O : (O_Ways_cellOnWay_86 G X) out) (hm : s_Ways_cellOnWay_86 v4 v6 v7 h = some out) : J G X 86 [(0, .ref (G.1 + 58)), (4, .int v4), (6, .int v6), (7, .int v7)] [] h := by
  unfold s_Ways_cellOnWay_86 at hm
  refine j_iload C 3 dX10_cellOnWay_86 rfl ?_
  refine j_iload C 1 dX10_cellOnWay_88 rfl ?_
  refine j_if_icmpge C 126 dX10_cellOnWay_90 (by decide) hm (fun hm => ?_) (fun hm => ?_)
  · refine j_iload C 2 dX10_cellOnWay_126 rfl ?_
    obtain rfl := Option.some.inj hm
    exact j_iret C O dX10_cellOnWay_128
  · refine j_aload_n C 0 dX10_cellOnWay_93 rfl rfl ?_
    refine j_lconst C 1 dX10_cellOnWay_94 (by decide) ?_
    refine j_iload C 2 dX10_cellOnWay_95 rfl ?_
    refine j_lshl C dX10_cellOnWay_97 ?_
    refine j_iload C 3 dX10_cellOnWay_98 rfl ?_
    refine j_cV C l_X10_107 [.long (z_lshl ((1 : Int64)) v6), .int v7] [] (fun u1 => some (.long u1)) (fun _ => h) (fun u1 => [.long u1]) n_58 hm (fun l u hu => c_Ways_reached hu) rfl (Nat.le_of_ble_eq_true rfl) rfl (Nat.le_of_ble_eq_true rfl) (Nat.le_of_ble_eq_true rfl) (fun _ => rfl) dX10_cellOnWay_100 (fun u1 hm => ?_)
    refine j_aload_n C 0 dX10_cellOnWay_103 rfl rfl ?_
    refine j_gS C f_X10_34 n_58 q_58_9 dX10_cellOnWay_104 ?_
    refine j_iload C 3 dX10_cellOnWay_107 rfl ?_
    refine j_iconst C 1 dX10_cellOnWay_109 (by decide) ?_
    refine j_iadd C dX10_cellOnWay_110 ?_
    refine j_lald C n_66 hm dX10_cellOnWay_111 (fun hm => ?_)
    refine j_land C dX10_cellOnWay_112 ?_
    refine j_iload C 2 dX10_cellOnWay_113 rfl ?_
    refine j_cS C l_X10_118 [.long (u1 &&& (hL h 66 (ix (v7 + ((1 : Int32)))))), .int v6] [] (fun u2 => some (.int u2)) (fun _ => h) (fun u2 => [.int u2]) hm (fun l u hu => c_Ways_lowest hu) rfl (Nat.le_of_ble_eq_true rfl) rfl (Nat.le_of_ble_eq_true rfl) (Nat.le_of_ble_eq_true rfl) (fun _ => rfl) dX10_cellOnWay_115 (fun u2 hm => ?_)
    refine j_istore C [(6, .int u2), (0, .ref (G.1 + 58)), (4, .int v4), (7, .int v7)] dX10_cellOnWay_118 (by decide) rfl ?_
    refine j_iinc C 3 [(7, .int (v7 + (1 : Int32))), (6, .int u2), (0, .ref (G.1 + 58)), (4, .int v4)] dX10_cellOnWay_120 rfl (add_lit (by decide)) (by decide) rfl ?_
    refine j_goto C 86 dX10_cellOnWay_123 (by decide) ?_
    obtain rfl := Option.some.inj hm
    refine j_sub (L' := [(0, .ref (G.1 + 58)), (4, .int v4), (6, .int u2), (7, .int (v7 + (1 : Int32)))]) [2, 3, 1, 0] rfl ?_
    exact O
theorem k_Ways_cellOnWay_86 {G : jG} {X : jX} (C : jC G X cX10_cellOnWay 8 RX10 3 123) {v4 : Int32} {v6 : Int32} {v7 : Int32} {h : Hp} {out : (Int32 × Hp)} (O : (O_Ways_cellOnWay G X) out) (hm : lp (fun q => s_Ways_cellOnWay_86 q.1 q.2.1 q.2.2.1 q.2.2.2) (v4, v6, v7, h) = some out) : J G X 86 [(0, .ref (G.1 + 58)), (4, .int v4), (6, .int v6), (7, .int v7)] [] h :=
  lp_ok (P := P_Ways_cellOnWay_86 G X) (O := (O_Ways_cellOnWay G X)) (fun q r hm O => w_Ways_cellOnWay_86 C O hm) hm O
theorem w_Ways_cellOnWay_46 {G : jG} {X : jX} (C : jC G X cX10_cellOnWay 8 RX10 3 123) {v1 : Int32} {v2 : Int32} {v4 : Int32} {v6 : Int32} {h : Hp} {out : ((Int32 × Int32 × Int32 × Int32 × Hp) ⊕ (Int32 × Hp))} (O : (O_Ways_cellOnWay_46 G X) out) (hm : s_Ways_cellOnWay_46 v1 v2 v4 v6 h = some out) : J G X 46 [(0, .ref (G.1 + 58)), (1, .int v1), (2, .int v2), (4, .int v4), (6, .int v6)] [] h := by
  unfold s_Ways_cellOnWay_46 at hm
  refine j_iload C 4 dX10_cellOnWay_46 rfl ?_
  refine j_iload_n C 1 dX10_cellOnWay_48 rfl rfl ?_
  refine j_if_icmplt C 80 dX10_cellOnWay_49 (by decide) hm (fun hm => ?_) (fun hm => ?_)
  · refine j_iload_n C 2 dX10_cellOnWay_80 rfl rfl ?_
    refine j_istore C [(6, .int v2), (0, .ref (G.1 + 58)), (1, .int v1), (2, .int v2), (4, .int v4)] dX10_cellOnWay_81 (by decide) rfl ?_
    refine j_iload_n C 2 dX10_cellOnWay_83 rfl rfl ?_
    refine j_istore C [(7, .int v1), (6, .int v2), (0, .ref (G.1 + 58)), (1, .int v1), (2, .int v2), (4, .int v4)] dX10_cellOnWay_84 (by decide) rfl ?_
    obtain ⟨o_0, hm_0, rfl⟩ := inr_inv hm
    refine j_sub (L' := [(0, .ref (G.1 + 58)), (4, .int v4), (6, .int v2), (7, .int v1)]) [2, 5, 1, 0] rfl ?_
    exact k_Ways_cellOnWay_86 C O hm_0
  · refine j_aload_n C 0 dX10_cellOnWay_52 rfl rfl ?_
    refine j_gS C f_X10_34 n_58 q_58_9 dX10_cellOnWay_53 ?_
    refine j_iload C 4 dX10_cellOnWay_56 rfl ?_
    refine j_aload_n C 0 dX10_cellOnWay_58 rfl rfl ?_
    refine j_aload_n C 0 dX10_cellOnWay_59 rfl rfl ?_
    refine j_gS C f_X10_34 n_58 q_58_9 dX10_cellOnWay_60 ?_
    refine j_iload C 4 dX10_cellOnWay_63 rfl ?_
    refine j_iconst C 1 dX10_cellOnWay_65 (by decide) ?_
    refine j_iadd C dX10_cellOnWay_66 ?_
    refine j_lald C n_66 hm dX10_cellOnWay_67 (fun hm => ?_)
    refine j_iload C 4 dX10_cellOnWay_68 rfl ?_
    refine j_cV C l_X10_115 [.long (hL h 66 (ix (v6 + ((1 : Int32))))), .int v6] [.int v6, .ref (G.1 + 66)] (fun u1 => some (.long u1)) (fun _ => h) (fun u1 => [.long u1, .int v6, .ref (G.1 + 66)]) n_58 hm (fun l u hu => c_Ways_reaching hu) rfl (Nat.le_of_ble_eq_true rfl) rfl (Nat.le_of_ble_eq_true rfl) (Nat.le_of_ble_eq_true rfl) (fun _ => rfl) dX10_cellOnWay_70 (fun u1 hm => ?_)
    refine j_last C n_66 hm dX10_cellOnWay_73 (fun hm => ?_)
    refine j_iinc C 4 [(6, .int (v6 + (-1 : Int32))), (0, .ref (G.1 + 58)), (1, .int v1), (2, .int v2), (4, .int v4)] dX10_cellOnWay_74 rfl (add_lit (by decide)) (by decide) rfl ?_
    refine j_goto C 46 dX10_cellOnWay_77 (by decide) ?_
    obtain rfl := Option.some.inj hm
    refine j_sub (L' := [(0, .ref (G.1 + 58)), (1, .int v1), (2, .int v2), (4, .int v4), (6, .int (v6 + (-1 : Int32)))]) [1, 2, 3, 4, 0] rfl ?_
    exact O
theorem k_Ways_cellOnWay_46 {G : jG} {X : jX} (C : jC G X cX10_cellOnWay 8 RX10 3 123) {v1 : Int32} {v2 : Int32} {v4 : Int32} {v6 : Int32} {h : Hp} {out : (Int32 × Hp)} (O : (O_Ways_cellOnWay G X) out) (hm : lp (fun q => s_Ways_cellOnWay_46 q.1 q.2.1 q.2.2.1 q.2.2.2.1 q.2.2.2.2) (v1, v2, v4, v6, h) = some out) : J G X 46 [(0, .ref (G.1 + 58)), (1, .int v1), (2, .int v2), (4, .int v4), (6, .int v6)] [] h :=
  lp_ok (P := P_Ways_cellOnWay_46 G X) (O := (O_Ways_cellOnWay G X)) (fun q r hm O => w_Ways_cellOnWay_46 C O hm) hm O
theorem w_Ways_cellOnWay {G : jG} {X : jX} (C : jC G X cX10_cellOnWay 8 RX10 3 123) {v1 : Int32} {v2 : Int32} {v3 : Int32} {v4 : Int32} {h : Hp} {out : (Int32 × Hp)} (O : (O_Ways_cellOnWay G X) out) (hm : s_Ways_cellOnWay v1 v2 v3 v4 h = some out) : J G X 0 [(0, .ref (G.1 + 58)), (1, .int v1), (2, .int v2), (3, .int v3), (4, .int v4)] [] h := by
  unfold s_Ways_cellOnWay at hm
  refine j_aload_n C 0 dX10_cellOnWay_0 rfl rfl ?_
  refine j_iload_n C 1 dX10_cellOnWay_1 rfl rfl ?_
  refine j_iload_n C 2 dX10_cellOnWay_2 rfl rfl ?_
  refine j_iload_n C 3 dX10_cellOnWay_3 rfl rfl ?_
  refine j_cV C l_X10_111 [.int v1, .int v2, .int v3] [] (fun u1 => some (.int u1)) (fun _ => h) (fun u1 => [.int u1]) n_58 hm (fun l u hu => c_Ways_firstStepAt hu) rfl (Nat.le_of_ble_eq_true rfl) rfl (Nat.le_of_ble_eq_true rfl) (Nat.le_of_ble_eq_true rfl) (fun _ => rfl) dX10_cellOnWay_4 (fun u1 hm => ?_)
  refine j_istore C [(5, .int u1), (0, .ref (G.1 + 58)), (1, .int v1), (2, .int v2), (3, .int v3), (4, .int v4)] dX10_cellOnWay_7 (by decide) rfl ?_
  refine j_iload C 0 dX10_cellOnWay_9 rfl ?_
  refine j_iconst C (-1 : Int32) dX10_cellOnWay_11 (by decide) ?_
  refine j_if_icmpeq C 28 dX10_cellOnWay_12 (by decide) hm (fun hm => ?_) (fun hm => ?_)
  · refine j_sub (L' := []) [] rfl ?_
    exact w_Ways_cellOnWay_28 C O hm
  · refine j_iload C 5 dX10_cellOnWay_15 rfl ?_
    refine j_iload_n C 2 dX10_cellOnWay_17 rfl rfl ?_
    refine j_if_icmplt C 28 dX10_cellOnWay_18 (by decide) hm (fun hm => ?_) (fun hm => ?_)
    · refine j_sub (L' := []) [] rfl ?_
      exact w_Ways_cellOnWay_28 C O hm
    · refine j_iload C 5 dX10_cellOnWay_21 rfl ?_
      refine j_iload C 0 dX10_cellOnWay_23 rfl ?_
      refine j_if_icmple C 30 dX10_cellOnWay_25 (by decide) hm (fun hm => ?_) (fun hm => ?_)
      · refine j_aload_n C 1 dX10_cellOnWay_30 rfl rfl ?_
        refine j_gS C f_X10_34 n_58 q_58_9 dX10_cellOnWay_31 ?_
        refine j_iload C 0 dX10_cellOnWay_34 rfl ?_
        refine j_lconst C 1 dX10_cellOnWay_36 (by decide) ?_
        refine j_iload_n C 4 dX10_cellOnWay_37 rfl rfl ?_
        refine j_lshl C dX10_cellOnWay_38 ?_
        refine j_last C n_66 hm dX10_cellOnWay_39 (fun hm => ?_)
        refine j_iload C 0 dX10_cellOnWay_40 rfl ?_
        refine j_iconst C 1 dX10_cellOnWay_42 (by decide) ?_
        refine j_isub C dX10_cellOnWay_43 ?_
        refine j_istore C [(6, .int (u1 - ((1 : Int32)))), (5, .int u1), (0, .ref (G.1 + 58)), (1, .int v1), (2, .int v2), (3, .int v3), (4, .int v4)] dX10_cellOnWay_44 (by decide) rfl ?_
        refine j_sub (L' := [(0, .ref (G.1 + 58)), (1, .int v1), (2, .int v2), (4, .int v4), (6, .int (u1 - ((1 : Int32))))]) [2, 3, 4, 6, 0] rfl ?_
        exact k_Ways_cellOnWay_46 C O hm
      · refine j_sub (L' := []) [] rfl ?_
        exact w_Ways_cellOnWay_28 C O hm
theorem c_Ways_cellOnWay {G : jG} {l : Launch} {v1 : Int32} {v2 : Int32} {v3 : Int32} {v4 : Int32} {h : Hp} {out : (Int32 × Hp)} (hm : s_Ways_cellOnWay v1 v2 v3 v4 h = some out) : mt G l yX10_cellOnWay cX10_cellOnWay 8 (some .int) 3 123 [.ref (G.1 + 58), .int v1, .int v2, .int v3, .int v4] h (some (.int out.1)) out.2 :=
  mt_of (by decide) (Nat.le_of_ble_eq_true rfl) _ rfl (fun X I C O => w_Ways_cellOnWay C O hm)
noncomputable def s_Race_way_38 (h : Hp) : Option (Int32 × Hp) :=
  some ((-1 : Int32), h)
noncomputable def s_Race_way (v1 : Int32) (v2 : Int32) (v3 : Int32) (v4 : Int32) (v5 : Int32) (h : Hp) : Option (Int32 × Hp) :=
  (s_Race_isBoat v1 h).bind fun u1 => if u1 = 0 then
    s_Race_way_38 h
  else
    (s_Race_isStep v2 h).bind fun u2 => if u2 = 0 then
      s_Race_way_38 h
    else
      (s_Race_isCell v3 h).bind fun u3 => if u3 = 0 then
        s_Race_way_38 h
      else
        (s_Race_isCell v4 h).bind fun u4 => if u4 = 0 then
          s_Race_way_38 h
        else
          (s_Race_isStep v5 h).bind fun u5 => if u5 = 0 then
            s_Race_way_38 h
          else
            (s_Water_freshenToday h).bind fun u6 => (s_Ways_survey v1 u6).bind fun u7 => (s_Ways_cellOnWay v2 v3 v4 v5 u7).bind fun u8 => some (u8.1, u8.2)
def O_Race_way (G : jG) (X : jX) (out : (Int32 × Hp)) : Prop := jO G X (some .int) (some (.int out.1)) out.2
theorem w_Race_way_38 {G : jG} {X : jX} (C : jC G X cX11_way 6 RX11 7 230) {h : Hp} {out : (Int32 × Hp)} (O : (O_Race_way G X) out) (hm : s_Race_way_38 h = some out) : J G X 38 [] [] h := by
  unfold s_Race_way_38 at hm
  refine j_iconst C (-1 : Int32) dX11_way_38 (by decide) ?_
  obtain rfl := Option.some.inj hm
  exact j_iret C O dX11_way_39
theorem w_Race_way {G : jG} {X : jX} (C : jC G X cX11_way 6 RX11 7 230) {v1 : Int32} {v2 : Int32} {v3 : Int32} {v4 : Int32} {v5 : Int32} {h : Hp} {out : (Int32 × Hp)} (O : (O_Race_way G X) out) (hm : s_Race_way v1 v2 v3 v4 v5 h = some out) : J G X 0 [(0, .ref (G.1 + 0)), (1, .int v1), (2, .int v2), (3, .int v3), (4, .int v4), (5, .int v5)] [] h := by
  unfold s_Race_way at hm
  refine j_aload_n C 0 dX11_way_0 rfl rfl ?_
  refine j_iload_n C 1 dX11_way_1 rfl rfl ?_
  refine j_cV C l_X11_238 [.int v1] [] (fun u1 => some (.int u1)) (fun _ => h) (fun u1 => [.int u1]) n_0 hm (fun l u hu => c_Race_isBoat hu) rfl (Nat.le_of_ble_eq_true rfl) rfl (Nat.le_of_ble_eq_true rfl) (Nat.le_of_ble_eq_true rfl) (fun _ => rfl) dX11_way_2 (fun u1 hm => ?_)
  refine j_ifeq C 38 dX11_way_5 (by decide) hm (fun hm => ?_) (fun hm => ?_)
  · refine j_sub (L' := []) [] rfl ?_
    exact w_Race_way_38 C O hm
  · refine j_iload_n C 2 dX11_way_8 rfl rfl ?_
    refine j_cS C l_X11_241 [.int v2] [] (fun u2 => some (.int u2)) (fun _ => h) (fun u2 => [.int u2]) hm (fun l u hu => c_Race_isStep hu) rfl (Nat.le_of_ble_eq_true rfl) rfl (Nat.le_of_ble_eq_true rfl) (Nat.le_of_ble_eq_true rfl) (fun _ => rfl) dX11_way_9 (fun u2 hm => ?_)
    refine j_ifeq C 38 dX11_way_12 (by decide) hm (fun hm => ?_) (fun hm => ?_)
    · refine j_sub (L' := []) [] rfl ?_
      exact w_Race_way_38 C O hm
    · refine j_iload_n C 3 dX11_way_15 rfl rfl ?_
      refine j_cS C l_X11_200 [.int v3] [] (fun u3 => some (.int u3)) (fun _ => h) (fun u3 => [.int u3]) hm (fun l u hu => c_Race_isCell hu) rfl (Nat.le_of_ble_eq_true rfl) rfl (Nat.le_of_ble_eq_true rfl) (Nat.le_of_ble_eq_true rfl) (fun _ => rfl) dX11_way_16 (fun u3 hm => ?_)
      refine j_ifeq C 38 dX11_way_19 (by decide) hm (fun hm => ?_) (fun hm => ?_)
      · refine j_sub (L' := []) [] rfl ?_
        exact w_Race_way_38 C O hm
      · refine j_iload C 4 dX11_way_22 rfl ?_
        refine j_cS C l_X11_200 [.int v4] [] (fun u4 => some (.int u4)) (fun _ => h) (fun u4 => [.int u4]) hm (fun l u hu => c_Race_isCell hu) rfl (Nat.le_of_ble_eq_true rfl) rfl (Nat.le_of_ble_eq_true rfl) (Nat.le_of_ble_eq_true rfl) (fun _ => rfl) dX11_way_24 (fun u4 hm => ?_)
        refine j_ifeq C 38 dX11_way_27 (by decide) hm (fun hm => ?_) (fun hm => ?_)
        · refine j_sub (L' := []) [] rfl ?_
          exact w_Race_way_38 C O hm
        · refine j_iload C 5 dX11_way_30 rfl ?_
          refine j_cS C l_X11_241 [.int v5] [] (fun u5 => some (.int u5)) (fun _ => h) (fun u5 => [.int u5]) hm (fun l u hu => c_Race_isStep hu) rfl (Nat.le_of_ble_eq_true rfl) rfl (Nat.le_of_ble_eq_true rfl) (Nat.le_of_ble_eq_true rfl) (fun _ => rfl) dX11_way_32 (fun u5 hm => ?_)
          refine j_ifne C 40 dX11_way_35 (by decide) hm (fun hm => ?_) (fun hm => ?_)
          · refine j_sub (L' := []) [] rfl ?_
            exact w_Race_way_38 C O hm
          · refine j_aload_n C 0 dX11_way_40 rfl rfl ?_
            refine j_gS C f_X11_45 n_0 q_0_5 dX11_way_41 ?_
            refine j_cV C l_X11_194 [] [] (fun _ => none) (fun u6 => u6) (fun u6 => []) n_50 hm (fun l u hu => c_Water_freshenToday hu) rfl (Nat.le_of_ble_eq_true rfl) rfl (Nat.le_of_ble_eq_true rfl) (Nat.le_of_ble_eq_true rfl) (fun _ => rfl) dX11_way_44 (fun u6 hm => ?_)
            refine j_aload_n C 0 dX11_way_47 rfl rfl ?_
            refine j_gS C f_X11_54 n_0 q_0_6 dX11_way_48 ?_
            refine j_iload_n C 1 dX11_way_51 rfl rfl ?_
            refine j_cV C l_X11_244 [.int v1] [] (fun _ => none) (fun u7 => u7) (fun u7 => []) n_58 hm (fun l u hu => c_Ways_survey hu) rfl (Nat.le_of_ble_eq_true rfl) rfl (Nat.le_of_ble_eq_true rfl) (Nat.le_of_ble_eq_true rfl) (fun _ => rfl) dX11_way_52 (fun u7 hm => ?_)
            refine j_aload_n C 0 dX11_way_55 rfl rfl ?_
            refine j_gS C f_X11_54 n_0 q_0_6 dX11_way_56 ?_
            refine j_iload_n C 2 dX11_way_59 rfl rfl ?_
            refine j_iload_n C 3 dX11_way_60 rfl rfl ?_
            refine j_iload C 4 dX11_way_61 rfl ?_
            refine j_iload C 5 dX11_way_63 rfl ?_
            refine j_cV C l_X11_251 [.int v2, .int v3, .int v4, .int v5] [] (fun u8 => some (.int u8.1)) (fun u8 => u8.2) (fun u8 => [.int u8.1]) n_58 hm (fun l u hu => c_Ways_cellOnWay hu) rfl (Nat.le_of_ble_eq_true rfl) rfl (Nat.le_of_ble_eq_true rfl) (Nat.le_of_ble_eq_true rfl) (fun _ => rfl) dX11_way_65 (fun u8 hm => ?_)
            obtain rfl := Option.some.inj hm
            exact j_iret C O dX11_way_68
theorem c_Race_way {G : jG} {l : Launch} {v1 : Int32} {v2 : Int32} {v3 : Int32} {v4 : Int32} {v5 : Int32} {h : Hp} {out : (Int32 × Hp)} (hm : s_Race_way v1 v2 v3 v4 v5 h = some out) : mt G l yX11_way cX11_way 6 (some .int) 7 230 [.ref (G.1 + 0), .int v1, .int v2, .int v3, .int v4, .int v5] h (some (.int out.1)) out.2 :=
  mt_of (by decide) (Nat.le_of_ble_eq_true rfl) _ rfl (fun X I C O => w_Race_way C O hm)
