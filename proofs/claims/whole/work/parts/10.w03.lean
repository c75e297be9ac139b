noncomputable def b_Mod_partOf_60 (rc0 : Int32 → Hp → Option (Int64 × Hp)) (rc1 : Int32 → Hp → Option (Int64 × Hp)) (rc2 : Int32 → Hp → Option (Int64 × Hp)) (h : Hp) : Option (Int64 × Hp) :=
  some ((0 : Int64), h)
noncomputable def b_Mod_partOf_97 (rc0 : Int32 → Hp → Option (Int64 × Hp)) (rc1 : Int32 → Hp → Option (Int64 × Hp)) (rc2 : Int32 → Hp → Option (Int64 × Hp)) (s0 : Int64) (h : Hp) : Option (Int64 × Hp) :=
  some (s0, h)
noncomputable def b_Mod_partOf (rc0 : Int32 → Hp → Option (Int64 × Hp)) (rc1 : Int32 → Hp → Option (Int64 × Hp)) (rc2 : Int32 → Hp → Option (Int64 × Hp)) (v1 : Int32) (h : Hp) : Option (Int64 × Hp) :=
  (s_Mod_sign ((91 : Int32)) h).bind fun u1 => (s_Mod_passes0 u1 h).bind fun u2 => if u2.1 = 0 then
    (s_Mod_codeAt (hI u2.2 84 19) u2.2).bind fun u3 => if v1 = 0 then
      b_Mod_partOf_60 rc0 rc1 rc2 (sI u2.2 84 19 ((hI u2.2 84 19) + ((1 : Int32))))
    else
      lt (sI u2.2 84 19 ((hI u2.2 84 19) + ((1 : Int32)))) fun h4 => if (hI h4 84 21) = 0 then
        if u3 = ((50 : Int32)) then
          ib ((((2598 : Int32)) + (hI h4 84 19)) - ((1 : Int32))) 4998 <| b_Mod_partOf_97 rc0 rc1 rc2 (Int32.toInt64 (hI h4 86 (ix ((((2598 : Int32)) + (hI h4 84 19)) - ((1 : Int32)))))) h4
        else
          ib (u3 - ((7 : Int32))) 7 <| b_Mod_partOf_97 rc0 rc1 rc2 (Int32.toInt64 (hI h4 95 (ix (u3 - ((7 : Int32)))))) h4
      else
        b_Mod_partOf_60 rc0 rc1 rc2 h4
  else
    (rc1 v1 u2.2).bind fun u5 => some (u5.1, sI u5.2 84 19 ((hI u5.2 84 19) + ((1 : Int32))))
noncomputable def b_Mod_sumOf_95 (rc0 : Int32 → Hp → Option (Int64 × Hp)) (rc1 : Int32 → Hp → Option (Int64 × Hp)) (rc2 : Int32 → Hp → Option (Int64 × Hp)) (v1 : Int32) (s0 : Int64) (h : Hp) : Option ((Int32 × Int64 × Hp) ⊕ (Int64 × Hp)) :=
  (s_Mod_bounded s0 v1 h).bind fun u1 => some (.inl (v1, u1.1, u1.2))
noncomputable def b_Mod_sumOf_59 (rc0 : Int32 → Hp → Option (Int64 × Hp)) (rc1 : Int32 → Hp → Option (Int64 × Hp)) (rc2 : Int32 → Hp → Option (Int64 × Hp)) (v1 : Int32) (v2 : Int64) (s0 : Int32) (h : Hp) : Option ((Int32 × Int64 × Hp) ⊕ (Int64 × Hp)) :=
  (rc2 v1 (sI h 84 19 ((hI h 84 19) + ((1 : Int32))))).bind fun u1 => if s0 = 0 then
    b_Mod_sumOf_95 rc0 rc1 rc2 v1 (v2 - u1.1) u1.2
  else
    b_Mod_sumOf_95 rc0 rc1 rc2 v1 (v2 + u1.1) u1.2
noncomputable def b_Mod_sumOf_38 (rc0 : Int32 → Hp → Option (Int64 × Hp)) (rc1 : Int32 → Hp → Option (Int64 × Hp)) (rc2 : Int32 → Hp → Option (Int64 × Hp)) (v1 : Int32) (v2 : Int64) (h : Hp) : Option ((Int32 × Int64 × Hp) ⊕ (Int64 × Hp)) :=
  (s_Mod_codeAt (hI h 84 19) h).bind fun u1 => (s_Mod_sign ((43 : Int32)) h).bind fun u2 => if u1 = u2 then
    b_Mod_sumOf_59 rc0 rc1 rc2 v1 v2 ((1 : Int32)) h
  else
    b_Mod_sumOf_59 rc0 rc1 rc2 v1 v2 ((0 : Int32)) h
noncomputable def b_Mod_sumOf_6 (rc0 : Int32 → Hp → Option (Int64 × Hp)) (rc1 : Int32 → Hp → Option (Int64 × Hp)) (rc2 : Int32 → Hp → Option (Int64 × Hp)) (v1 : Int32) (v2 : Int64) (h : Hp) : Option ((Int32 × Int64 × Hp) ⊕ (Int64 × Hp)) :=
  (s_Mod_codeAt (hI h 84 19) h).bind fun u1 => (s_Mod_sign ((43 : Int32)) h).bind fun u2 => if u1 = u2 then
    b_Mod_sumOf_38 rc0 rc1 rc2 v1 v2 h
  else
    (s_Mod_codeAt (hI h 84 19) h).bind fun u3 => (s_Mod_sign ((45 : Int32)) h).bind fun u4 => if u3 = u4 then
      b_Mod_sumOf_38 rc0 rc1 rc2 v1 v2 h
    else
      some (.inr (v2, h))
noncomputable def b_Mod_sumOf (rc0 : Int32 → Hp → Option (Int64 × Hp)) (rc1 : Int32 → Hp → Option (Int64 × Hp)) (rc2 : Int32 → Hp → Option (Int64 × Hp)) (v1 : Int32) (h : Hp) : Option (Int64 × Hp) :=
  (rc2 v1 h).bind fun u1 => lp (fun q => b_Mod_sumOf_6 rc0 rc1 rc2 q.1 q.2.1 q.2.2) (v1, u1.1, u1.2)
noncomputable def b_Mod_termOf_130 (rc0 : Int32 → Hp → Option (Int64 × Hp)) (rc1 : Int32 → Hp → Option (Int64 × Hp)) (rc2 : Int32 → Hp → Option (Int64 × Hp)) (v1 : Int32) (s0 : Int64) (h : Hp) : Option ((Int32 × Int64 × Hp) ⊕ (Int64 × Hp)) :=
  (s_Mod_bounded s0 v1 h).bind fun u1 => some (.inl (v1, u1.1, u1.2))
noncomputable def b_Mod_termOf_113 (rc0 : Int32 → Hp → Option (Int64 × Hp)) (rc1 : Int32 → Hp → Option (Int64 × Hp)) (rc2 : Int32 → Hp → Option (Int64 × Hp)) (v1 : Int32) (v2 : Int64) (v4 : Int32) (v5 : Int64) (h : Hp) : Option ((Int32 × Int64 × Hp) ⊕ (Int64 × Hp)) :=
  if v4 = 0 then
    cnL v5 <| b_Mod_termOf_130 rc0 rc1 rc2 v1 (v2 / v5) h
  else
    b_Mod_termOf_130 rc0 rc1 rc2 v1 (v2 * v5) h
noncomputable def b_Mod_termOf_107 (rc0 : Int32 → Hp → Option (Int64 × Hp)) (rc1 : Int32 → Hp → Option (Int64 × Hp)) (rc2 : Int32 → Hp → Option (Int64 × Hp)) (v1 : Int32) (v2 : Int64) (v4 : Int32) (s0 : Int32) (h : Hp) : Option ((Int32 × Int64 × Hp) ⊕ (Int64 × Hp)) :=
  bz s0 <| b_Mod_termOf_113 rc0 rc1 rc2 v1 v2 v4 ((1 : Int64)) (sI h 84 21 s0)
noncomputable def b_Mod_termOf_102 (rc0 : Int32 → Hp → Option (Int64 × Hp)) (rc1 : Int32 → Hp → Option (Int64 × Hp)) (rc2 : Int32 → Hp → Option (Int64 × Hp)) (v1 : Int32) (v2 : Int64) (v4 : Int32) (h : Hp) : Option ((Int32 × Int64 × Hp) ⊕ (Int64 × Hp)) :=
  b_Mod_termOf_107 rc0 rc1 rc2 v1 v2 v4 ((1 : Int32)) h
noncomputable def b_Mod_termOf_59 (rc0 : Int32 → Hp → Option (Int64 × Hp)) (rc1 : Int32 → Hp → Option (Int64 × Hp)) (rc2 : Int32 → Hp → Option (Int64 × Hp)) (v1 : Int32) (v2 : Int64) (s0 : Int32) (h : Hp) : Option ((Int32 × Int64 × Hp) ⊕ (Int64 × Hp)) :=
  (rc0 v1 (sI h 84 19 ((hI h 84 19) + ((1 : Int32))))).bind fun u1 => if s0 = 0 then
    if (lg_cmp u1.1 ((0 : Int64))) = 0 then
      if (hI u1.2 84 21) = 0 then
        if v1 = 0 then
          b_Mod_termOf_107 rc0 rc1 rc2 v1 v2 s0 ((0 : Int32)) u1.2
        else
          b_Mod_termOf_102 rc0 rc1 rc2 v1 v2 s0 u1.2
      else
        b_Mod_termOf_102 rc0 rc1 rc2 v1 v2 s0 u1.2
    else
      b_Mod_termOf_113 rc0 rc1 rc2 v1 v2 s0 u1.1 u1.2
  else
    b_Mod_termOf_113 rc0 rc1 rc2 v1 v2 s0 u1.1 u1.2
noncomputable def b_Mod_termOf_38 (rc0 : Int32 → Hp → Option (Int64 × Hp)) (rc1 : Int32 → Hp → Option (Int64 × Hp)) (rc2 : Int32 → Hp → Option (Int64 × Hp)) (v1 : Int32) (v2 : Int64) (h : Hp) : Option ((Int32 × Int64 × Hp) ⊕ (Int64 × Hp)) :=
  (s_Mod_codeAt (hI h 84 19) h).bind fun u1 => (s_Mod_sign ((42 : Int32)) h).bind fun u2 => if u1 = u2 then
    b_Mod_termOf_59 rc0 rc1 rc2 v1 v2 ((1 : Int32)) h
  else
    b_Mod_termOf_59 rc0 rc1 rc2 v1 v2 ((0 : Int32)) h
noncomputable def b_Mod_termOf_6 (rc0 : Int32 → Hp → Option (Int64 × Hp)) (rc1 : Int32 → Hp → Option (Int64 × Hp)) (rc2 : Int32 → Hp → Option (Int64 × Hp)) (v1 : Int32) (v2 : Int64) (h : Hp) : Option ((Int32 × Int64 × Hp) ⊕ (Int64 × Hp)) :=
  (s_Mod_codeAt (hI h 84 19) h).bind fun u1 => (s_Mod_sign ((42 : Int32)) h).bind fun u2 => if u1 = u2 then
    b_Mod_termOf_38 rc0 rc1 rc2 v1 v2 h
  else
    (s_Mod_codeAt (hI h 84 19) h).bind fun u3 => (s_Mod_sign ((47 : Int32)) h).bind fun u4 => if u3 = u4 then
      b_Mod_termOf_38 rc0 rc1 rc2 v1 v2 h
    else
      some (.inr (v2, h))
noncomputable def b_Mod_termOf (rc0 : Int32 → Hp → Option (Int64 × Hp)) (rc1 : Int32 → Hp → Option (Int64 × Hp)) (rc2 : Int32 → Hp → Option (Int64 × Hp)) (v1 : Int32) (h : Hp) : Option (Int64 × Hp) :=
  (rc0 v1 h).bind fun u1 => lp (fun q => b_Mod_termOf_6 rc0 rc1 rc2 q.1 q.2.1 q.2.2) (v1, u1.1, u1.2)
noncomputable def r_Mod_partOf : Nat → (Int32 → Hp → Option (Int64 × Hp)) × (Int32 → Hp → Option (Int64 × Hp)) × (Int32 → Hp → Option (Int64 × Hp))
  | 0 => (fun _ _ => none, fun _ _ => none, fun _ _ => none)
  | d + 1 => (b_Mod_partOf ((r_Mod_partOf d).1) ((r_Mod_partOf d).2.1) ((r_Mod_partOf d).2.2), b_Mod_sumOf ((r_Mod_partOf d).1) ((r_Mod_partOf d).2.1) ((r_Mod_partOf d).2.2), b_Mod_termOf ((r_Mod_partOf d).1) ((r_Mod_partOf d).2.1) ((r_Mod_partOf d).2.2))
noncomputable def s_Mod_partOf (v1 : Int32) (h : Hp) : Option (Int64 × Hp) := (r_Mod_partOf 100).1 v1 h
noncomputable def s_Mod_sumOf (v1 : Int32) (h : Hp) : Option (Int64 × Hp) := (r_Mod_partOf 100).2.1 v1 h
noncomputable def s_Mod_termOf (v1 : Int32) (h : Hp) : Option (Int64 × Hp) := (r_Mod_partOf 100).2.2 v1 h
def O_Mod_partOf (G : jG) (X : jX) (out : (Int64 × Hp)) : Prop := jO G X (some .long) (some (.long out.1)) out.2
def O_Mod_sumOf (G : jG) (X : jX) (out : (Int64 × Hp)) : Prop := jO G X (some .long) (some (.long out.1)) out.2
def P_Mod_sumOf_6 (G : jG) (X : jX) (q : Int32 × Int64 × Hp) : Prop := J G X 6 [(0, .ref (G.1 + 84)), (1, .int q.1), (2, .long q.2.1)] [] q.2.2
def O_Mod_sumOf_6 (G : jG) (X : jX) (t : ((Int32 × Int64 × Hp) ⊕ (Int64 × Hp))) : Prop := Sum.elim (P_Mod_sumOf_6 G X) (O_Mod_sumOf G X) t
def O_Mod_termOf (G : jG) (X : jX) (out : (Int64 × Hp)) : Prop := jO G X (some .long) (some (.long out.1)) out.2
def P_Mod_termOf_6 (G : jG) (X : jX) (q : Int32 × Int64 × Hp) : Prop := J G X 6 [(0, .ref (G.1 + 84)), (1, .int q.1), (2, .long q.2.1)] [] q.2.2
def O_Mod_termOf_6 (G : jG) (X : jX) (t : ((Int32 × Int64 × Hp) ⊕ (Int64 × Hp))) : Prop := Sum.elim (P_Mod_termOf_6 G X) (O_Mod_termOf G X) t
theorem w_Mod_partOf_60 {G : jG} {X : jX} {d : Nat} {rc0 : Int32 → Hp → Option (Int64 × Hp)} {rc1 : Int32 → Hp → Option (Int64 × Hp)} {rc2 : Int32 → Hp → Option (Int64 × Hp)} (C : jC G X cX12_partOf 4 RX12 (3 + (d + 1)) (113 + 26 * (d + 1))) (IH0 : ∀ (l : Launch) (v1 : Int32) (h : Hp) (out : (Int64 × Hp)), rc0 v1 h = some out → mt G l yX12_partOf cX12_partOf 4 (some .long) (3 + d) (113 + 26 * d) [.ref (G.1 + 84), .int v1] h (some (.long out.1)) out.2) (IH1 : ∀ (l : Launch) (v1 : Int32) (h : Hp) (out : (Int64 × Hp)), rc1 v1 h = some out → mt G l yX12_sumOf cX12_sumOf 7 (some .long) (3 + d) (113 + 26 * d) [.ref (G.1 + 84), .int v1] h (some (.long out.1)) out.2) (IH2 : ∀ (l : Launch) (v1 : Int32) (h : Hp) (out : (Int64 × Hp)), rc2 v1 h = some out → mt G l yX12_termOf cX12_termOf 7 (some .long) (3 + d) (113 + 26 * d) [.ref (G.1 + 84), .int v1] h (some (.long out.1)) out.2) {h : Hp} {out : (Int64 × Hp)} (O : (O_Mod_partOf G X) out) (hm : b_Mod_partOf_60 rc0 rc1 rc2 h = some out) : J G X 60 [] [] h := by
  unfold b_Mod_partOf_60 at hm
  refine j_lconst C 0 dX12_partOf_60 (by decide) ?_
  obtain rfl := Option.some.inj hm
  exact j_lret C O dX12_partOf_61
theorem w_Mod_partOf_97 {G : jG} {X : jX} {d : Nat} {rc0 : Int32 → Hp → Option (Int64 × Hp)} {rc1 : Int32 → Hp → Option (Int64 × Hp)} {rc2 : Int32 → Hp → Option (Int64 × Hp)} (C : jC G X cX12_partOf 4 RX12 (3 + (d + 1)) (113 + 26 * (d + 1))) (IH0 : ∀ (l : Launch) (v1 : Int32) (h : Hp) (out : (Int64 × Hp)), rc0 v1 h = some out → mt G l yX12_partOf cX12_partOf 4 (some .long) (3 + d) (113 + 26 * d) [.ref (G.1 + 84), .int v1] h (some (.long out.1)) out.2) (IH1 : ∀ (l : Launch) (v1 : Int32) (h : Hp) (out : (Int64 × Hp)), rc1 v1 h = some out → mt G l yX12_sumOf cX12_sumOf 7 (some .long) (3 + d) (113 + 26 * d) [.ref (G.1 + 84), .int v1] h (some (.long out.1)) out.2) (IH2 : ∀ (l : Launch) (v1 : Int32) (h : Hp) (out : (Int64 × Hp)), rc2 v1 h = some out → mt G l yX12_termOf cX12_termOf 7 (some .long) (3 + d) (113 + 26 * d) [.ref (G.1 + 84), .int v1] h (some (.long out.1)) out.2) {s0 : Int64} {h : Hp} {out : (Int64 × Hp)} (O : (O_Mod_partOf G X) out) (hm : b_Mod_partOf_97 rc0 rc1 rc2 s0 h = some out) : J G X 97 [] [.long s0] h := by
  unfold b_Mod_partOf_97 at hm
  obtain rfl := Option.some.inj hm
  exact j_lret C O dX12_partOf_97
theorem w_Mod_partOf {G : jG} {X : jX} {d : Nat} {rc0 : Int32 → Hp → Option (Int64 × Hp)} {rc1 : Int32 → Hp → Option (Int64 × Hp)} {rc2 : Int32 → Hp → Option (Int64 × Hp)} (C : jC G X cX12_partOf 4 RX12 (3 + (d + 1)) (113 + 26 * (d + 1))) (IH0 : ∀ (l : Launch) (v1 : Int32) (h : Hp) (out : (Int64 × Hp)), rc0 v1 h = some out → mt G l yX12_partOf cX12_partOf 4 (some .long) (3 + d) (113 + 26 * d) [.ref (G.1 + 84), .int v1] h (some (.long out.1)) out.2) (IH1 : ∀ (l : Launch) (v1 : Int32) (h : Hp) (out : (Int64 × Hp)), rc1 v1 h = some out → mt G l yX12_sumOf cX12_sumOf 7 (some .long) (3 + d) (113 + 26 * d) [.ref (G.1 + 84), .int v1] h (some (.long out.1)) out.2) (IH2 : ∀ (l : Launch) (v1 : Int32) (h : Hp) (out : (Int64 × Hp)), rc2 v1 h = some out → mt G l yX12_termOf cX12_termOf 7 (some .long) (3 + d) (113 + 26 * d) [.ref (G.1 + 84), .int v1] h (some (.long out.1)) out.2) {v1 : Int32} {h : Hp} {out : (Int64 × Hp)} (O : (O_Mod_partOf G X) out) (hm : b_Mod_partOf rc0 rc1 rc2 v1 h = some out) : J G X 0 [(0, .ref (G.1 + 84)), (1, .int v1)] [] h := by
  unfold b_Mod_partOf at hm
  refine j_aload_n C 0 dX12_partOf_0 rfl rfl ?_
  refine j_bipush C 91 dX12_partOf_1 (by decide) ?_
  refine j_cS C l_X12_193 [.int ((91 : Int32))] [.ref (G.1 + 84)] (fun u1 => some (.int u1)) (fun _ => h) (fun u1 => [.int u1, .ref (G.1 + 84)]) hm (fun l u hu => c_Mod_sign hu) rfl (Nat.le_of_ble_eq_true rfl) rfl (by omega) (by omega) (fun _ => rfl) dX12_partOf_3 (fun u1 hm => ?_)
  refine j_cV C l_X12_243 [.int u1] [] (fun u2 => some (.int u2.1)) (fun u2 => u2.2) (fun u2 => [.int u2.1]) n_84 hm (fun l u hu => c_Mod_passes0 hu) rfl (Nat.le_of_ble_eq_true rfl) rfl (by omega) (by omega) (fun _ => rfl) dX12_partOf_6 (fun u2 hm => ?_)
  refine j_ifeq C 30 dX12_partOf_9 (by decide) hm (fun hm => ?_) (fun hm => ?_)
  · refine j_aload_n C 0 dX12_partOf_30 rfl rfl ?_
    refine j_aload_n C 0 dX12_partOf_31 rfl rfl ?_
    refine j_gI C f_X12_218 n_84 dX12_partOf_32 ?_
    refine j_cV C l_X12_221 [.int (hI u2.2 84 19)] [] (fun u3 => some (.int u3)) (fun _ => u2.2) (fun u3 => [.int u3]) n_84 hm (fun l u hu => c_Mod_codeAt hu) rfl (Nat.le_of_ble_eq_true rfl) rfl (by omega) (by omega) (fun _ => rfl) dX12_partOf_35 (fun u3 hm => ?_)
    refine j_istore_n C [(2, .int u3), (0, .ref (G.1 + 84)), (1, .int v1)] dX12_partOf_38 rfl (by decide) rfl ?_
    refine j_aload_n C 1 dX12_partOf_39 rfl rfl ?_
    refine j_dup C dX12_partOf_40 rfl ?_
    refine j_gI C f_X12_218 n_84 dX12_partOf_41 ?_
    refine j_iconst C 1 dX12_partOf_44 (by decide) ?_
    refine j_iadd C dX12_partOf_45 ?_
    refine j_pI C f_X12_218 n_84 dX12_partOf_46 ?_
    refine j_iload_n C 2 dX12_partOf_49 rfl rfl ?_
    refine j_ifeq C 60 dX12_partOf_50 (by decide) hm (fun hm => ?_) (fun hm => ?_)
    · refine j_sub (L' := []) [] rfl ?_
      exact w_Mod_partOf_60 C IH0 IH1 IH2 O hm
    · refine j_aload_n C 1 dX12_partOf_53 rfl rfl ?_
      refine j_nmH hm (fun h4 hm => ?_)
      refine j_gZ C f_X12_228 n_84 dX12_partOf_54 ?_
      refine j_ifeq C 62 dX12_partOf_57 (by decide) hm (fun hm => ?_) (fun hm => ?_)
      · refine j_iload_n C 0 dX12_partOf_62 rfl rfl ?_
        refine j_bipush C 50 dX12_partOf_63 (by decide) ?_
        refine j_if_icmpne C 87 dX12_partOf_65 (by decide) hm (fun hm => ?_) (fun hm => ?_)
        · refine j_aload_n C 1 dX12_partOf_68 rfl rfl ?_
          refine j_gS C f_X12_20 n_84 q_84_3 dX12_partOf_69 ?_
          refine j_sipush C 2598 dX12_partOf_72 (by decide) ?_
          refine j_aload_n C 1 dX12_partOf_75 rfl rfl ?_
          refine j_gI C f_X12_218 n_84 dX12_partOf_76 ?_
          refine j_iadd C dX12_partOf_79 ?_
          refine j_iconst C 1 dX12_partOf_80 (by decide) ?_
          refine j_isub C dX12_partOf_81 ?_
          refine j_iald C n_86 hm dX12_partOf_82 (fun hm => ?_)
          refine j_i2l C dX12_partOf_83 ?_
          refine j_goto C 97 dX12_partOf_84 (by decide) ?_
          refine j_sub (L' := []) [] rfl ?_
          exact w_Mod_partOf_97 C IH0 IH1 IH2 O hm
        · refine j_aload_n C 1 dX12_partOf_87 rfl rfl ?_
          refine j_gS C f_X12_52 n_84 q_84_22 dX12_partOf_88 ?_
          refine j_iload_n C 0 dX12_partOf_91 rfl rfl ?_
          refine j_bipush C 7 dX12_partOf_92 (by decide) ?_
          refine j_isub C dX12_partOf_94 ?_
          refine j_iald C n_95 hm dX12_partOf_95 (fun hm => ?_)
          refine j_i2l C dX12_partOf_96 ?_
          refine j_sub (L' := []) [] rfl ?_
          exact w_Mod_partOf_97 C IH0 IH1 IH2 O hm
      · refine j_sub (L' := []) [] rfl ?_
        exact w_Mod_partOf_60 C IH0 IH1 IH2 O hm
  · refine j_aload_n C 0 dX12_partOf_12 rfl rfl ?_
    refine j_iload_n C 1 dX12_partOf_13 rfl rfl ?_
    refine j_cV C l_X12_246 [.int v1] [] (fun u5 => some (.long u5.1)) (fun u5 => u5.2) (fun u5 => [.long u5.1]) n_84 hm (fun l u hu => IH1 _ _ _ _ hu) rfl (Nat.le_of_ble_eq_true rfl) rfl (by omega) (by omega) (fun _ => rfl) dX12_partOf_14 (fun u5 hm => ?_)
    refine j_lstore_n C [(2, .long u5.1), (0, .ref (G.1 + 84)), (1, .int v1)] dX12_partOf_17 rfl (by decide) rfl ?_
    refine j_aload_n C 1 dX12_partOf_18 rfl rfl ?_
    refine j_dup C dX12_partOf_19 rfl ?_
    refine j_gI C f_X12_218 n_84 dX12_partOf_20 ?_
    refine j_iconst C 1 dX12_partOf_23 (by decide) ?_
    refine j_iadd C dX12_partOf_24 ?_
    refine j_pI C f_X12_218 n_84 dX12_partOf_25 ?_
    refine j_lload_n C 0 dX12_partOf_28 rfl rfl ?_
    obtain rfl := Option.some.inj hm
    exact j_lret C O dX12_partOf_29
theorem w_Mod_sumOf_95 {G : jG} {X : jX} {d : Nat} {rc0 : Int32 → Hp → Option (Int64 × Hp)} {rc1 : Int32 → Hp → Option (Int64 × Hp)} {rc2 : Int32 → Hp → Option (Int64 × Hp)} (C : jC G X cX12_sumOf 7 RX12 (3 + (d + 1)) (113 + 26 * (d + 1))) (IH0 : ∀ (l : Launch) (v1 : Int32) (h : Hp) (out : (Int64 × Hp)), rc0 v1 h = some out → mt G l yX12_partOf cX12_partOf 4 (some .long) (3 + d) (113 + 26 * d) [.ref (G.1 + 84), .int v1] h (some (.long out.1)) out.2) (IH1 : ∀ (l : Launch) (v1 : Int32) (h : Hp) (out : (Int64 × Hp)), rc1 v1 h = some out → mt G l yX12_sumOf cX12_sumOf 7 (some .long) (3 + d) (113 + 26 * d) [.ref (G.1 + 84), .int v1] h (some (.long out.1)) out.2) (IH2 : ∀ (l : Launch) (v1 : Int32) (h : Hp) (out : (Int64 × Hp)), rc2 v1 h = some out → mt G l yX12_termOf cX12_termOf 7 (some .long) (3 + d) (113 + 26 * d) [.ref (G.1 + 84), .int v1] h (some (.long out.1)) out.2) {v1 : Int32} {s0 : Int64} {h : Hp} {out : ((Int32 × Int64 × Hp) ⊕ (Int64 × Hp))} (O : (O_Mod_sumOf_6 G X) out) (hm : b_Mod_sumOf_95 rc0 rc1 rc2 v1 s0 h = some out) : J G X 95 [(0, .ref (G.1 + 84)), (1, .int v1)] [.long s0, .ref (G.1 + 84)] h := by
  unfold b_Mod_sumOf_95 at hm
  refine j_iload_n C 1 dX12_sumOf_95 rfl rfl ?_
  refine j_cV C l_X12_236 [.long s0, .int v1] [] (fun u1 => some (.long u1.1)) (fun u1 => u1.2) (fun u1 => [.long u1.1]) n_84 hm (fun l u hu => c_Mod_bounded hu) rfl (Nat.le_of_ble_eq_true rfl) rfl (by omega) (by omega) (fun _ => rfl) dX12_sumOf_96 (fun u1 hm => ?_)
  refine j_lstore_n C [(2, .long u1.1), (0, .ref (G.1 + 84)), (1, .int v1)] dX12_sumOf_99 rfl (by decide) rfl ?_
  refine j_goto C 6 dX12_sumOf_100 (by decide) ?_
  obtain rfl := Option.some.inj hm
  refine j_sub (L' := [(0, .ref (G.1 + 84)), (1, .int v1), (2, .long u1.1)]) [1, 2, 0] rfl ?_
  exact O
theorem w_Mod_sumOf_59 {G : jG} {X : jX} {d : Nat} {rc0 : Int32 → Hp → Option (Int64 × Hp)} {rc1 : Int32 → Hp → Option (Int64 × Hp)} {rc2 : Int32 → Hp → Option (Int64 × Hp)} (C : jC G X cX12_sumOf 7 RX12 (3 + (d + 1)) (113 + 26 * (d + 1))) (IH0 : ∀ (l : Launch) (v1 : Int32) (h : Hp) (out : (Int64 × Hp)), rc0 v1 h = some out → mt G l yX12_partOf cX12_partOf 4 (some .long) (3 + d) (113 + 26 * d) [.ref (G.1 + 84), .int v1] h (some (.long out.1)) out.2) (IH1 : ∀ (l : Launch) (v1 : Int32) (h : Hp) (out : (Int64 × Hp)), rc1 v1 h = some out → mt G l yX12_sumOf cX12_sumOf 7 (some .long) (3 + d) (113 + 26 * d) [.ref (G.1 + 84), .int v1] h (some (.long out.1)) out.2) (IH2 : ∀ (l : Launch) (v1 : Int32) (h : Hp) (out : (Int64 × Hp)), rc2 v1 h = some out → mt G l yX12_termOf cX12_termOf 7 (some .long) (3 + d) (113 + 26 * d) [.ref (G.1 + 84), .int v1] h (some (.long out.1)) out.2) {v1 : Int32} {v2 : Int64} {s0 : Int32} {h : Hp} {out : ((Int32 × Int64 × Hp) ⊕ (Int64 × Hp))} (O : (O_Mod_sumOf_6 G X) out) (hm : b_Mod_sumOf_59 rc0 rc1 rc2 v1 v2 s0 h = some out) : J G X 59 [(0, .ref (G.1 + 84)), (1, .int v1), (2, .long v2)] [.int s0] h := by
  unfold b_Mod_sumOf_59 at hm
  refine j_istore C [(4, .int s0), (0, .ref (G.1 + 84)), (1, .int v1), (2, .long v2)] dX12_sumOf_59 (by decide) rfl ?_
  refine j_aload_n C 1 dX12_sumOf_61 rfl rfl ?_
  refine j_dup C dX12_sumOf_62 rfl ?_
  refine j_gI C f_X12_218 n_84 dX12_sumOf_63 ?_
  refine j_iconst C 1 dX12_sumOf_66 (by decide) ?_
  refine j_iadd C dX12_sumOf_67 ?_
  refine j_pI C f_X12_218 n_84 dX12_sumOf_68 ?_
  refine j_aload_n C 1 dX12_sumOf_71 rfl rfl ?_
  refine j_iload_n C 2 dX12_sumOf_72 rfl rfl ?_
  refine j_cV C l_X12_232 [.int v1] [] (fun u1 => some (.long u1.1)) (fun u1 => u1.2) (fun u1 => [.long u1.1]) n_84 hm (fun l u hu => IH2 _ _ _ _ hu) rfl (Nat.le_of_ble_eq_true rfl) rfl (by omega) (by omega) (fun _ => rfl) dX12_sumOf_73 (fun u1 hm => ?_)
  refine j_lstore C [(5, .long u1.1), (4, .int s0), (0, .ref (G.1 + 84)), (1, .int v1), (2, .long v2)] dX12_sumOf_76 (by decide) rfl ?_
  refine j_aload_n C 2 dX12_sumOf_78 rfl rfl ?_
  refine j_iload C 1 dX12_sumOf_79 rfl ?_
  refine j_ifeq C 91 dX12_sumOf_81 (by decide) hm (fun hm => ?_) (fun hm => ?_)
  · refine j_lload_n C 4 dX12_sumOf_91 rfl rfl ?_
    refine j_lload C 0 dX12_sumOf_92 rfl ?_
    refine j_lsub C dX12_sumOf_94 ?_
    refine j_sub (L' := [(0, .ref (G.1 + 84)), (1, .int v1)]) [2, 3] rfl ?_
    exact w_Mod_sumOf_95 C IH0 IH1 IH2 O hm
  · refine j_lload_n C 4 dX12_sumOf_84 rfl rfl ?_
    refine j_lload C 0 dX12_sumOf_85 rfl ?_
    refine j_ladd C dX12_sumOf_87 ?_
    refine j_goto C 95 dX12_sumOf_88 (by decide) ?_
    refine j_sub (L' := [(0, .ref (G.1 + 84)), (1, .int v1)]) [2, 3] rfl ?_
    exact w_Mod_sumOf_95 C IH0 IH1 IH2 O hm
theorem w_Mod_sumOf_38 {G : jG} {X : jX} {d : Nat} {rc0 : Int32 → Hp → Option (Int64 × Hp)} {rc1 : Int32 → Hp → Option (Int64 × Hp)} {rc2 : Int32 → Hp → Option (Int64 × Hp)} (C : jC G X cX12_sumOf 7 RX12 (3 + (d + 1)) (113 + 26 * (d + 1))) (IH0 : ∀ (l : Launch) (v1 : Int32) (h : Hp) (out : (Int64 × Hp)), rc0 v1 h = some out → mt G l yX12_partOf cX12_partOf 4 (some .long) (3 + d) (113 + 26 * d) [.ref (G.1 + 84), .int v1] h (some (.long out.1)) out.2) (IH1 : ∀ (l : Launch) (v1 : Int32) (h : Hp) (out : (Int64 × Hp)), rc1 v1 h = some out → mt G l yX12_sumOf cX12_sumOf 7 (some .long) (3 + d) (113 + 26 * d) [.ref (G.1 + 84), .int v1] h (some (.long out.1)) out.2) (IH2 : ∀ (l : Launch) (v1 : Int32) (h : Hp) (out : (Int64 × Hp)), rc2 v1 h = some out → mt G l yX12_termOf cX12_termOf 7 (some .long) (3 + d) (113 + 26 * d) [.ref (G.1 + 84), .int v1] h (some (.long out.1)) out.2) {v1 : Int32} {v2 : Int64} {h : Hp} {out : ((Int32 × Int64 × Hp) ⊕ (Int64 × Hp))} (O : (O_Mod_sumOf_6 G X) out) (hm : b_Mod_sumOf_38 rc0 rc1 rc2 v1 v2 h = some out) : J G X 38 [(0, .ref (G.1 + 84)), (1, .int v1), (2, .long v2)] [] h := by
  unfold b_Mod_sumOf_38 at hm
  refine j_aload_n C 0 dX12_sumOf_38 rfl rfl ?_
  refine j_aload_n C 0 dX12_sumOf_39 rfl rfl ?_
  refine j_gI C f_X12_218 n_84 dX12_sumOf_40 ?_
  refine j_cV C l_X12_221 [.int (hI h 84 19)] [] (fun u1 => some (.int u1)) (fun _ => h) (fun u1 => [.int u1]) n_84 hm (fun l u hu => c_Mod_codeAt hu) rfl (Nat.le_of_ble_eq_true rfl) rfl (by omega) (by omega) (fun _ => rfl) dX12_sumOf_43 (fun u1 hm => ?_)
  refine j_bipush C 43 dX12_sumOf_46 (by decide) ?_
  refine j_cS C l_X12_193 [.int ((43 : Int32))] [.int u1] (fun u2 => some (.int u2)) (fun _ => h) (fun u2 => [.int u2, .int u1]) hm (fun l u hu => c_Mod_sign hu) rfl (Nat.le_of_ble_eq_true rfl) rfl (by omega) (by omega) (fun _ => rfl) dX12_sumOf_48 (fun u2 hm => ?_)
  refine j_if_icmpne C 58 dX12_sumOf_51 (by decide) hm (fun hm => ?_) (fun hm => ?_)
  · refine j_iconst C 1 dX12_sumOf_54 (by decide) ?_
    refine j_goto C 59 dX12_sumOf_55 (by decide) ?_
    refine j_sub (L' := [(0, .ref (G.1 + 84)), (1, .int v1), (2, .long v2)]) [0, 1, 2] rfl ?_
    exact w_Mod_sumOf_59 C IH0 IH1 IH2 O hm
  · refine j_iconst C 0 dX12_sumOf_58 (by decide) ?_
    refine j_sub (L' := [(0, .ref (G.1 + 84)), (1, .int v1), (2, .long v2)]) [0, 1, 2] rfl ?_
    exact w_Mod_sumOf_59 C IH0 IH1 IH2 O hm
theorem w_Mod_sumOf_6 {G : jG} {X : jX} {d : Nat} {rc0 : Int32 → Hp → Option (Int64 × Hp)} {rc1 : Int32 → Hp → Option (Int64 × Hp)} {rc2 : Int32 → Hp → Option (Int64 × Hp)} (C : jC G X cX12_sumOf 7 RX12 (3 + (d + 1)) (113 + 26 * (d + 1))) (IH0 : ∀ (l : Launch) (v1 : Int32) (h : Hp) (out : (Int64 × Hp)), rc0 v1 h = some out → mt G l yX12_partOf cX12_partOf 4 (some .long) (3 + d) (113 + 26 * d) [.ref (G.1 + 84), .int v1] h (some (.long out.1)) out.2) (IH1 : ∀ (l : Launch) (v1 : Int32) (h : Hp) (out : (Int64 × Hp)), rc1 v1 h = some out → mt G l yX12_sumOf cX12_sumOf 7 (some .long) (3 + d) (113 + 26 * d) [.ref (G.1 + 84), .int v1] h (some (.long out.1)) out.2) (IH2 : ∀ (l : Launch) (v1 : Int32) (h : Hp) (out : (Int64 × Hp)), rc2 v1 h = some out → mt G l yX12_termOf cX12_termOf 7 (some .long) (3 + d) (113 + 26 * d) [.ref (G.1 + 84), .int v1] h (some (.long out.1)) out.2) {v1 : Int32} {v2 : Int64} {h : Hp} {out : ((Int32 × Int64 × Hp) ⊕ (Int64 × Hp))} (O : (O_Mod_sumOf_6 G X) out) (hm : b_Mod_sumOf_6 rc0 rc1 rc2 v1 v2 h = some out) : J G X 6 [(0, .ref (G.1 + 84)), (1, .int v1), (2, .long v2)] [] h := by
  unfold b_Mod_sumOf_6 at hm
  refine j_aload_n C 0 dX12_sumOf_6 rfl rfl ?_
  refine j_aload_n C 0 dX12_sumOf_7 rfl rfl ?_
  refine j_gI C f_X12_218 n_84 dX12_sumOf_8 ?_
  refine j_cV C l_X12_221 [.int (hI h 84 19)] [] (fun u1 => some (.int u1)) (fun _ => h) (fun u1 => [.int u1]) n_84 hm (fun l u hu => c_Mod_codeAt hu) rfl (Nat.le_of_ble_eq_true rfl) rfl (by omega) (by omega) (fun _ => rfl) dX12_sumOf_11 (fun u1 hm => ?_)
  refine j_bipush C 43 dX12_sumOf_14 (by decide) ?_
  refine j_cS C l_X12_193 [.int ((43 : Int32))] [.int u1] (fun u2 => some (.int u2)) (fun _ => h) (fun u2 => [.int u2, .int u1]) hm (fun l u hu => c_Mod_sign hu) rfl (Nat.le_of_ble_eq_true rfl) rfl (by omega) (by omega) (fun _ => rfl) dX12_sumOf_16 (fun u2 hm => ?_)
  refine j_if_icmpeq C 38 dX12_sumOf_19 (by decide) hm (fun hm => ?_) (fun hm => ?_)
  · refine j_sub (L' := [(0, .ref (G.1 + 84)), (1, .int v1), (2, .long v2)]) [0, 1, 2] rfl ?_
    exact w_Mod_sumOf_38 C IH0 IH1 IH2 O hm
  · refine j_aload_n C 0 dX12_sumOf_22 rfl rfl ?_
    refine j_aload_n C 0 dX12_sumOf_23 rfl rfl ?_
    refine j_gI C f_X12_218 n_84 dX12_sumOf_24 ?_
    refine j_cV C l_X12_221 [.int (hI h 84 19)] [] (fun u3 => some (.int u3)) (fun _ => h) (fun u3 => [.int u3]) n_84 hm (fun l u hu => c_Mod_codeAt hu) rfl (Nat.le_of_ble_eq_true rfl) rfl (by omega) (by omega) (fun _ => rfl) dX12_sumOf_27 (fun u3 hm => ?_)
    refine j_bipush C 45 dX12_sumOf_30 (by decide) ?_
    refine j_cS C l_X12_193 [.int ((45 : Int32))] [.int u3] (fun u4 => some (.int u4)) (fun _ => h) (fun u4 => [.int u4, .int u3]) hm (fun l u hu => c_Mod_sign hu) rfl (Nat.le_of_ble_eq_true rfl) rfl (by omega) (by omega) (fun _ => rfl) dX12_sumOf_32 (fun u4 hm => ?_)
    refine j_if_icmpne C 103 dX12_sumOf_35 (by decide) hm (fun hm => ?_) (fun hm => ?_)
    · refine j_sub (L' := [(0, .ref (G.1 + 84)), (1, .int v1), (2, .long v2)]) [0, 1, 2] rfl ?_
      exact w_Mod_sumOf_38 C IH0 IH1 IH2 O hm
    · refine j_lload_n C 2 dX12_sumOf_103 rfl rfl ?_
      obtain rfl := Option.some.inj hm
      exact j_lret C O dX12_sumOf_104
theorem k_Mod_sumOf_6 {G : jG} {X : jX} {d : Nat} {rc0 : Int32 → Hp → Option (Int64 × Hp)} {rc1 : Int32 → Hp → Option (Int64 × Hp)} {rc2 : Int32 → Hp → Option (Int64 × Hp)} (C : jC G X cX12_sumOf 7 RX12 (3 + (d + 1)) (113 + 26 * (d + 1))) (IH0 : ∀ (l : Launch) (v1 : Int32) (h : Hp) (out : (Int64 × Hp)), rc0 v1 h = some out → mt G l yX12_partOf cX12_partOf 4 (some .long) (3 + d) (113 + 26 * d) [.ref (G.1 + 84), .int v1] h (some (.long out.1)) out.2) (IH1 : ∀ (l : Launch) (v1 : Int32) (h : Hp) (out : (Int64 × Hp)), rc1 v1 h = some out → mt G l yX12_sumOf cX12_sumOf 7 (some .long) (3 + d) (113 + 26 * d) [.ref (G.1 + 84), .int v1] h (some (.long out.1)) out.2) (IH2 : ∀ (l : Launch) (v1 : Int32) (h : Hp) (out : (Int64 × Hp)), rc2 v1 h = some out → mt G l yX12_termOf cX12_termOf 7 (some .long) (3 + d) (113 + 26 * d) [.ref (G.1 + 84), .int v1] h (some (.long out.1)) out.2) {v1 : Int32} {v2 : Int64} {h : Hp} {out : (Int64 × Hp)} (O : (O_Mod_sumOf G X) out) (hm : lp (fun q => b_Mod_sumOf_6 rc0 rc1 rc2 q.1 q.2.1 q.2.2) (v1, v2, h) = some out) : J G X 6 [(0, .ref (G.1 + 84)), (1, .int v1), (2, .long v2)] [] h :=
  lp_ok (P := P_Mod_sumOf_6 G X) (O := (O_Mod_sumOf G X)) (fun q r hm O => w_Mod_sumOf_6 C IH0 IH1 IH2 O hm) hm O
theorem w_Mod_sumOf {G : jG} {X : jX} {d : Nat} {rc0 : Int32 → Hp → Option (Int64 × Hp)} {rc1 : Int32 → Hp → Option (Int64 × Hp)} {rc2 : Int32 → Hp → Option (Int64 × Hp)} (C : jC G X cX12_sumOf 7 RX12 (3 + (d + 1)) (113 + 26 * (d + 1))) (IH0 : ∀ (l : Launch) (v1 : Int32) (h : Hp) (out : (Int64 × Hp)), rc0 v1 h = some out → mt G l yX12_partOf cX12_partOf 4 (some .long) (3 + d) (113 + 26 * d) [.ref (G.1 + 84), .int v1] h (some (.long out.1)) out.2) (IH1 : ∀ (l : Launch) (v1 : Int32) (h : Hp) (out : (Int64 × Hp)), rc1 v1 h = some out → mt G l yX12_sumOf cX12_sumOf 7 (some .long) (3 + d) (113 + 26 * d) [.ref (G.1 + 84), .int v1] h (some (.long out.1)) out.2) (IH2 : ∀ (l : Launch) (v1 : Int32) (h : Hp) (out : (Int64 × Hp)), rc2 v1 h = some out → mt G l yX12_termOf cX12_termOf 7 (some .long) (3 + d) (113 + 26 * d) [.ref (G.1 + 84), .int v1] h (some (.long out.1)) out.2) {v1 : Int32} {h : Hp} {out : (Int64 × Hp)} (O : (O_Mod_sumOf G X) out) (hm : b_Mod_sumOf rc0 rc1 rc2 v1 h = some out) : J G X 0 [(0, .ref (G.1 + 84)), (1, .int v1)] [] h := by
  unfold b_Mod_sumOf at hm
  refine j_aload_n C 0 dX12_sumOf_0 rfl rfl ?_
  refine j_iload_n C 1 dX12_sumOf_1 rfl rfl ?_
  refine j_cV C l_X12_232 [.int v1] [] (fun u1 => some (.long u1.1)) (fun u1 => u1.2) (fun u1 => [.long u1.1]) n_84 hm (fun l u hu => IH2 _ _ _ _ hu) rfl (Nat.le_of_ble_eq_true rfl) rfl (by omega) (by omega) (fun _ => rfl) dX12_sumOf_2 (fun u1 hm => ?_)
  refine j_lstore_n C [(2, .long u1.1), (0, .ref (G.1 + 84)), (1, .int v1)] dX12_sumOf_5 rfl (by decide) rfl ?_
  refine j_sub (L' := [(0, .ref (G.1 + 84)), (1, .int v1), (2, .long u1.1)]) [1, 2, 0] rfl ?_
  exact k_Mod_sumOf_6 C IH0 IH1 IH2 O hm
theorem w_Mod_termOf_130 {G : jG} {X : jX} {d : Nat} {rc0 : Int32 → Hp → Option (Int64 × Hp)} {rc1 : Int32 → Hp → Option (Int64 × Hp)} {rc2 : Int32 → Hp → Option (Int64 × Hp)} (C : jC G X cX12_termOf 7 RX12 (3 + (d + 1)) (113 + 26 * (d + 1))) (IH0 : ∀ (l : Launch) (v1 : Int32) (h : Hp) (out : (Int64 × Hp)), rc0 v1 h = some out → mt G l yX12_partOf cX12_partOf 4 (some .long) (3 + d) (113 + 26 * d) [.ref (G.1 + 84), .int v1] h (some (.long out.1)) out.2) (IH1 : ∀ (l : Launch) (v1 : Int32) (h : Hp) (out : (Int64 × Hp)), rc1 v1 h = some out → mt G l yX12_sumOf cX12_sumOf 7 (some .long) (3 + d) (113 + 26 * d) [.ref (G.1 + 84), .int v1] h (some (.long out.1)) out.2) (IH2 : ∀ (l : Launch) (v1 : Int32) (h : Hp) (out : (Int64 × Hp)), rc2 v1 h = some out → mt G l yX12_termOf cX12_termOf 7 (some .long) (3 + d) (113 + 26 * d) [.ref (G.1 + 84), .int v1] h (some (.long out.1)) out.2) {v1 : Int32} {s0 : Int64} {h : Hp} {out : ((Int32 × Int64 × Hp) ⊕ (Int64 × Hp))} (O : (O_Mod_termOf_6 G X) out) (hm : b_Mod_termOf_130 rc0 rc1 rc2 v1 s0 h = some out) : J G X 130 [(0, .ref (G.1 + 84)), (1, .int v1)] [.long s0, .ref (G.1 + 84)] h := by
  unfold b_Mod_termOf_130 at hm
  refine j_iload_n C 1 dX12_termOf_130 rfl rfl ?_
  refine j_cV C l_X12_236 [.long s0, .int v1] [] (fun u1 => some (.long u1.1)) (fun u1 => u1.2) (fun u1 => [.long u1.1]) n_84 hm (fun l u hu => c_Mod_bounded hu) rfl (Nat.le_of_ble_eq_true rfl) rfl (by omega) (by omega) (fun _ => rfl) dX12_termOf_131 (fun u1 hm => ?_)
  refine j_lstore_n C [(2, .long u1.1), (0, .ref (G.1 + 84)), (1, .int v1)] dX12_termOf_134 rfl (by decide) rfl ?_
  refine j_goto C 6 dX12_termOf_135 (by decide) ?_
  obtain rfl := Option.some.inj hm
  refine j_sub (L' := [(0, .ref (G.1 + 84)), (1, .int v1), (2, .long u1.1)]) [1, 2, 0] rfl ?_
  exact O
theorem w_Mod_termOf_113 {G : jG} {X : jX} {d : Nat} {rc0 : Int32 → Hp → Option (Int64 × Hp)} {rc1 : Int32 → Hp → Option (Int64 × Hp)} {rc2 : Int32 → Hp → Option (Int64 × Hp)} (C : jC G X cX12_termOf 7 RX12 (3 + (d + 1)) (113 + 26 * (d + 1))) (IH0 : ∀ (l : Launch) (v1 : Int32) (h : Hp) (out : (Int64 × Hp)), rc0 v1 h = some out → mt G l yX12_partOf cX12_partOf 4 (some .long) (3 + d) (113 + 26 * d) [.ref (G.1 + 84), .int v1] h (some (.long out.1)) out.2) (IH1 : ∀ (l : Launch) (v1 : Int32) (h : Hp) (out : (Int64 × Hp)), rc1 v1 h = some out → mt G l yX12_sumOf cX12_sumOf 7 (some .long) (3 + d) (113 + 26 * d) [.ref (G.1 + 84), .int v1] h (some (.long out.1)) out.2) (IH2 : ∀ (l : Launch) (v1 : Int32) (h : Hp) (out : (Int64 × Hp)), rc2 v1 h = some out → mt G l yX12_termOf cX12_termOf 7 (some .long) (3 + d) (113 + 26 * d) [.ref (G.1 + 84), .int v1] h (some (.long out.1)) out.2) {v1 : Int32} {v2 : Int64} {v4 : Int32} {v5 : Int64} {h : Hp} {out : ((Int32 × Int64 × Hp) ⊕ (Int64 × Hp))} (O : (O_Mod_termOf_6 G X) out) (hm : b_Mod_termOf_113 rc0 rc1 rc2 v1 v2 v4 v5 h = some out) : J G X 113 [(0, .ref (G.1 + 84)), (1, .int v1), (2, .long v2), (4, .int v4), (5, .long v5)] [] h := by
  unfold b_Mod_termOf_113 at hm
  refine j_aload_n C 0 dX12_termOf_113 rfl rfl ?_
  refine j_iload C 3 dX12_termOf_114 rfl ?_
  refine j_ifeq C 126 dX12_termOf_116 (by decide) hm (fun hm => ?_) (fun hm => ?_)
  · refine j_lload_n C 2 dX12_termOf_126 rfl rfl ?_
    refine j_lload C 4 dX12_termOf_127 rfl ?_
    obtain ⟨c1, hm⟩ := cnL_inv hm
    refine j_ldiv C dX12_termOf_129 c1 ?_
    refine j_sub (L' := [(0, .ref (G.1 + 84)), (1, .int v1)]) [0, 1] rfl ?_
    exact w_Mod_termOf_130 C IH0 IH1 IH2 O hm
  · refine j_lload_n C 2 dX12_termOf_119 rfl rfl ?_
    refine j_lload C 4 dX12_termOf_120 rfl ?_
    refine j_lmul C dX12_termOf_122 ?_
    refine j_goto C 130 dX12_termOf_123 (by decide) ?_
    refine j_sub (L' := [(0, .ref (G.1 + 84)), (1, .int v1)]) [0, 1] rfl ?_
    exact w_Mod_termOf_130 C IH0 IH1 IH2 O hm
theorem w_Mod_termOf_107 {G : jG} {X : jX} {d : Nat} {rc0 : Int32 → Hp → Option (Int64 × Hp)} {rc1 : Int32 → Hp → Option (Int64 × Hp)} {rc2 : Int32 → Hp → Option (Int64 × Hp)} (C : jC G X cX12_termOf 7 RX12 (3 + (d + 1)) (113 + 26 * (d + 1))) (IH0 : ∀ (l : Launch) (v1 : Int32) (h : Hp) (out : (Int64 × Hp)), rc0 v1 h = some out → mt G l yX12_partOf cX12_partOf 4 (some .long) (3 + d) (113 + 26 * d) [.ref (G.1 + 84), .int v1] h (some (.long out.1)) out.2) (IH1 : ∀ (l : Launch) (v1 : Int32) (h : Hp) (out : (Int64 × Hp)), rc1 v1 h = some out → mt G l yX12_sumOf cX12_sumOf 7 (some .long) (3 + d) (113 + 26 * d) [.ref (G.1 + 84), .int v1] h (some (.long out.1)) out.2) (IH2 : ∀ (l : Launch) (v1 : Int32) (h : Hp) (out : (Int64 × Hp)), rc2 v1 h = some out → mt G l yX12_termOf cX12_termOf 7 (some .long) (3 + d) (113 + 26 * d) [.ref (G.1 + 84), .int v1] h (some (.long out.1)) out.2) {v1 : Int32} {v2 : Int64} {v4 : Int32} {s0 : Int32} {h : Hp} {out : ((Int32 × Int64 × Hp) ⊕ (Int64 × Hp))} (O : (O_Mod_termOf_6 G X) out) (hm : b_Mod_termOf_107 rc0 rc1 rc2 v1 v2 v4 s0 h = some out) : J G X 107 [(0, .ref (G.1 + 84)), (1, .int v1), (2, .long v2), (4, .int v4)] [.int s0, .ref (G.1 + 84)] h := by
  unfold b_Mod_termOf_107 at hm
  obtain ⟨c1, hm⟩ := bz_inv hm
  refine j_pZ C f_X12_228 n_84 c1 dX12_termOf_107 ?_
  refine j_lconst C 1 dX12_termOf_110 (by decide) ?_
  refine j_lstore C [(5, .long ((1 : Int64))), (0, .ref (G.1 + 84)), (1, .int v1), (2, .long v2), (4, .int v4)] dX12_termOf_111 (by decide) rfl ?_
  refine j_sub (L' := [(0, .ref (G.1 + 84)), (1, .int v1), (2, .long v2), (4, .int v4), (5, .long ((1 : Int64)))]) [1, 2, 3, 4, 0] rfl ?_
  exact w_Mod_termOf_113 C IH0 IH1 IH2 O hm
theorem w_Mod_termOf_102 {G : jG} {X : jX} {d : Nat} {rc0 : Int32 → Hp → Option (Int64 × Hp)} {rc1 : Int32 → Hp → Option (Int64 × Hp)} {rc2 : Int32 → Hp → Option (Int64 × Hp)} (C : jC G X cX12_termOf 7 RX12 (3 + (d + 1)) (113 + 26 * (d + 1))) (IH0 : ∀ (l : Launch) (v1 : Int32) (h : Hp) (out : (Int64 × Hp)), rc0 v1 h = some out → mt G l yX12_partOf cX12_partOf 4 (some .long) (3 + d) (113 + 26 * d) [.ref (G.1 + 84), .int v1] h (some (.long out.1)) out.2) (IH1 : ∀ (l : Launch) (v1 : Int32) (h : Hp) (out : (Int64 × Hp)), rc1 v1 h = some out → mt G l yX12_sumOf cX12_sumOf 7 (some .long) (3 + d) (113 + 26 * d) [.ref (G.1 + 84), .int v1] h (some (.long out.1)) out.2) (IH2 : ∀ (l : Launch) (v1 : Int32) (h : Hp) (out : (Int64 × Hp)), rc2 v1 h = some out → mt G l yX12_termOf cX12_termOf 7 (some .long) (3 + d) (113 + 26 * d) [.ref (G.1 + 84), .int v1] h (some (.long out.1)) out.2) {v1 : Int32} {v2 : Int64} {v4 : Int32} {h : Hp} {out : ((Int32 × Int64 × Hp) ⊕ (Int64 × Hp))} (O : (O_Mod_termOf_6 G X) out) (hm : b_Mod_termOf_102 rc0 rc1 rc2 v1 v2 v4 h = some out) : J G X 102 [(0, .ref (G.1 + 84)), (1, .int v1), (2, .long v2), (4, .int v4)] [.ref (G.1 + 84)] h := by
  unfold b_Mod_termOf_102 at hm
  refine j_iconst C 1 dX12_termOf_102 (by decide) ?_
  refine j_goto C 107 dX12_termOf_103 (by decide) ?_
  refine j_sub (L' := [(0, .ref (G.1 + 84)), (1, .int v1), (2, .long v2), (4, .int v4)]) [0, 1, 2, 3] rfl ?_
  exact w_Mod_termOf_107 C IH0 IH1 IH2 O hm
theorem w_Mod_termOf_59 {G : jG} {X : jX} {d : Nat} {rc0 : Int32 → Hp → Option (Int64 × Hp)} {rc1 : Int32 → Hp → Option (Int64 × Hp)} {rc2 : Int32 → Hp → Option (Int64 × Hp)} (C : jC G X cX12_termOf 7 RX12 (3 + (d + 1)) (113 + 26 * (d + 1))) (IH0 : ∀ (l : Launch) (v1 : Int32) (h : Hp) (out : (Int64 × Hp)), rc0 v1 h = some out → mt G l yX12_partOf cX12_partOf 4 (some .long) (3 + d) (113 + 26 * d) [.ref (G.1 + 84), .int v1] h (some (.long out.1)) out.2) (IH1 : ∀ (l : Launch) (v1 : Int32) (h : Hp) (out : (Int64 × Hp)), rc1 v1 h = some out → mt G l yX12_sumOf cX12_sumOf 7 (some .long) (3 + d) (113 + 26 * d) [.ref (G.1 + 84), .int v1] h (some (.long out.1)) out.2) (IH2 : ∀ (l : Launch) (v1 : Int32) (h : Hp) (out : (Int64 × Hp)), rc2 v1 h = some out → mt G l yX12_termOf cX12_termOf 7 (some .long) (3 + d) (113 + 26 * d) [.ref (G.1 + 84), .int v1] h (some (.long out.1)) out.2) {v1 : Int32} {v2 : Int64} {s0 : Int32} {h : Hp} {out : ((Int32 × Int64 × Hp) ⊕ (Int64 × Hp))} (O : (O_Mod_termOf_6 G X) out) (hm : b_Mod_termOf_59 rc0 rc1 rc2 v1 v2 s0 h = some out) : J G X 59 [(0, .ref (G.1 + 84)), (1, .int v1), (2, .long v2)] [.int s0] h := by
  unfold b_Mod_termOf_59 at hm
  refine j_istore C [(4, .int s0), (0, .ref (G.1 + 84)), (1, .int v1), (2, .long v2)] dX12_termOf_59 (by decide) rfl ?_
  refine j_aload_n C 1 dX12_termOf_61 rfl rfl ?_
  refine j_dup C dX12_termOf_62 rfl ?_
  refine j_gI C f_X12_218 n_84 dX12_termOf_63 ?_
  refine j_iconst C 1 dX12_termOf_66 (by decide) ?_
  refine j_iadd C dX12_termOf_67 ?_
  refine j_pI C f_X12_218 n_84 dX12_termOf_68 ?_
  refine j_aload_n C 1 dX12_termOf_71 rfl rfl ?_
  refine j_iload_n C 2 dX12_termOf_72 rfl rfl ?_
  refine j_cV C l_X12_240 [.int v1] [] (fun u1 => some (.long u1.1)) (fun u1 => u1.2) (fun u1 => [.long u1.1]) n_84 hm (fun l u hu => IH0 _ _ _ _ hu) rfl (Nat.le_of_ble_eq_true rfl) rfl (by omega) (by omega) (fun _ => rfl) dX12_termOf_73 (fun u1 hm => ?_)
  refine j_lstore C [(5, .long u1.1), (4, .int s0), (0, .ref (G.1 + 84)), (1, .int v1), (2, .long v2)] dX12_termOf_76 (by decide) rfl ?_
  refine j_iload C 1 dX12_termOf_78 rfl ?_
  refine j_ifne C 113 dX12_termOf_80 (by decide) hm (fun hm => ?_) (fun hm => ?_)
  · refine j_lload C 0 dX12_termOf_83 rfl ?_
    refine j_lconst C 0 dX12_termOf_85 (by decide) ?_
    refine j_lcmp C dX12_termOf_86 ?_
    refine j_ifne C 113 dX12_termOf_87 (by decide) hm (fun hm => ?_) (fun hm => ?_)
    · refine j_aload_n C 2 dX12_termOf_90 rfl rfl ?_
      refine j_aload_n C 2 dX12_termOf_91 rfl rfl ?_
      refine j_gZ C f_X12_228 n_84 dX12_termOf_92 ?_
      refine j_ifne C 102 dX12_termOf_95 (by decide) hm (fun hm => ?_) (fun hm => ?_)
      · refine j_iload_n C 3 dX12_termOf_98 rfl rfl ?_
        refine j_ifeq C 106 dX12_termOf_99 (by decide) hm (fun hm => ?_) (fun hm => ?_)
        · refine j_iconst C 0 dX12_termOf_106 (by decide) ?_
          refine j_sub (L' := [(0, .ref (G.1 + 84)), (1, .int v1), (2, .long v2), (4, .int s0)]) [2, 3, 4, 1] rfl ?_
          exact w_Mod_termOf_107 C IH0 IH1 IH2 O hm
        · refine j_sub (L' := [(0, .ref (G.1 + 84)), (1, .int v1), (2, .long v2), (4, .int s0)]) [2, 3, 4, 1] rfl ?_
          exact w_Mod_termOf_102 C IH0 IH1 IH2 O hm
      · refine j_sub (L' := [(0, .ref (G.1 + 84)), (1, .int v1), (2, .long v2), (4, .int s0)]) [2, 3, 4, 1] rfl ?_
        exact w_Mod_termOf_102 C IH0 IH1 IH2 O hm
    · refine j_sub (L' := [(0, .ref (G.1 + 84)), (1, .int v1), (2, .long v2), (4, .int s0), (5, .long u1.1)]) [2, 3, 4, 1, 0] rfl ?_
      exact w_Mod_termOf_113 C IH0 IH1 IH2 O hm
  · refine j_sub (L' := [(0, .ref (G.1 + 84)), (1, .int v1), (2, .long v2), (4, .int s0), (5, .long u1.1)]) [2, 3, 4, 1, 0] rfl ?_
    exact w_Mod_termOf_113 C IH0 IH1 IH2 O hm
theorem w_Mod_termOf_38 {G : jG} {X : jX} {d : Nat} {rc0 : Int32 → Hp → Option (Int64 × Hp)} {rc1 : Int32 → Hp → Option (Int64 × Hp)} {rc2 : Int32 → Hp → Option (Int64 × Hp)} (C : jC G X cX12_termOf 7 RX12 (3 + (d + 1)) (113 + 26 * (d + 1))) (IH0 : ∀ (l : Launch) (v1 : Int32) (h : Hp) (out : (Int64 × Hp)), rc0 v1 h = some out → mt G l yX12_partOf cX12_partOf 4 (some .long) (3 + d) (113 + 26 * d) [.ref (G.1 + 84), .int v1] h (some (.long out.1)) out.2) (IH1 : ∀ (l : Launch) (v1 : Int32) (h : Hp) (out : (Int64 × Hp)), rc1 v1 h = some out → mt G l yX12_sumOf cX12_sumOf 7 (some .long) (3 + d) (113 + 26 * d) [.ref (G.1 + 84), .int v1] h (some (.long out.1)) out.2) (IH2 : ∀ (l : Launch) (v1 : Int32) (h : Hp) (out : (Int64 × Hp)), rc2 v1 h = some out → mt G l yX12_termOf cX12_termOf 7 (some .long) (3 + d) (113 + 26 * d) [.ref (G.1 + 84), .int v1] h (some (.long out.1)) out.2) {v1 : Int32} {v2 : Int64} {h : Hp} {out : ((Int32 × Int64 × Hp) ⊕ (Int64 × Hp))} (O : (O_Mod_termOf_6 G X) out) (hm : b_Mod_termOf_38 rc0 rc1 rc2 v1 v2 h = some out) : J G X 38 [(0, .ref (G.1 + 84)), (1, .int v1), (2, .long v2)] [] h := by
  unfold b_Mod_termOf_38 at hm
  refine j_aload_n C 0 dX12_termOf_38 rfl rfl ?_
  refine j_aload_n C 0 dX12_termOf_39 rfl rfl ?_
  refine j_gI C f_X12_218 n_84 dX12_termOf_40 ?_
  refine j_cV C l_X12_221 [.int (hI h 84 19)] [] (fun u1 => some (.int u1)) (fun _ => h) (fun u1 => [.int u1]) n_84 hm (fun l u hu => c_Mod_codeAt hu) rfl (Nat.le_of_ble_eq_true rfl) rfl (by omega) (by omega) (fun _ => rfl) dX12_termOf_43 (fun u1 hm => ?_)
  refine j_bipush C 42 dX12_termOf_46 (by decide) ?_
  refine j_cS C l_X12_193 [.int ((42 : Int32))] [.int u1] (fun u2 => some (.int u2)) (fun _ => h) (fun u2 => [.int u2, .int u1]) hm (fun l u hu => c_Mod_sign hu) rfl (Nat.le_of_ble_eq_true rfl) rfl (by omega) (by omega) (fun _ => rfl) dX12_termOf_48 (fun u2 hm => ?_)
  refine j_if_icmpne C 58 dX12_termOf_51 (by decide) hm (fun hm => ?_) (fun hm => ?_)
  · refine j_iconst C 1 dX12_termOf_54 (by decide) ?_
    refine j_goto C 59 dX12_termOf_55 (by decide) ?_
    refine j_sub (L' := [(0, .ref (G.1 + 84)), (1, .int v1), (2, .long v2)]) [0, 1, 2] rfl ?_
    exact w_Mod_termOf_59 C IH0 IH1 IH2 O hm
  · refine j_iconst C 0 dX12_termOf_58 (by decide) ?_
    refine j_sub (L' := [(0, .ref (G.1 + 84)), (1, .int v1), (2, .long v2)]) [0, 1, 2] rfl ?_
    exact w_Mod_termOf_59 C IH0 IH1 IH2 O hm
theorem w_Mod_termOf_6 {G : jG} {X : jX} {d : Nat} {rc0 : Int32 → Hp → Option (Int64 × Hp)} {rc1 : Int32 → Hp → Option (Int64 × Hp)} {rc2 : Int32 → Hp → Option (Int64 × Hp)} (C : jC G X cX12_termOf 7 RX12 (3 + (d + 1)) (113 + 26 * (d + 1))) (IH0 : ∀ (l : Launch) (v1 : Int32) (h : Hp) (out : (Int64 × Hp)), rc0 v1 h = some out → mt G l yX12_partOf cX12_partOf 4 (some .long) (3 + d) (113 + 26 * d) [.ref (G.1 + 84), .int v1] h (some (.long out.1)) out.2) (IH1 : ∀ (l : Launch) (v1 : Int32) (h : Hp) (out : (Int64 × Hp)), rc1 v1 h = some out → mt G l yX12_sumOf cX12_sumOf 7 (some .long) (3 + d) (113 + 26 * d) [.ref (G.1 + 84), .int v1] h (some (.long out.1)) out.2) (IH2 : ∀ (l : Launch) (v1 : Int32) (h : Hp) (out : (Int64 × Hp)), rc2 v1 h = some out → mt G l yX12_termOf cX12_termOf 7 (some .long) (3 + d) (113 + 26 * d) [.ref (G.1 + 84), .int v1] h (some (.long out.1)) out.2) {v1 : Int32} {v2 : Int64} {h : Hp} {out : ((Int32 × Int64 × Hp) ⊕ (Int64 × Hp))} (O : (O_Mod_termOf_6 G X) out) (hm : b_Mod_termOf_6 rc0 rc1 rc2 v1 v2 h = some out) : J G X 6 [(0, .ref (G.1 + 84)), (1, .int v1), (2, .long v2)] [] h := by
  unfold b_Mod_termOf_6 at hm
  refine j_aload_n C 0 dX12_termOf_6 rfl rfl ?_
  refine j_aload_n C 0 dX12_termOf_7 rfl rfl ?_
  refine j_gI C f_X12_218 n_84 dX12_termOf_8 ?_
  refine j_cV C l_X12_221 [.int (hI h 84 19)] [] (fun u1 => some (.int u1)) (fun _ => h) (fun u1 => [.int u1]) n_84 hm (fun l u hu => c_Mod_codeAt hu) rfl (Nat.le_of_ble_eq_true rfl) rfl (by omega) (by omega) (fun _ => rfl) dX12_termOf_11 (fun u1 hm => ?_)
  refine j_bipush C 42 dX12_termOf_14 (by decide) ?_
  refine j_cS C l_X12_193 [.int ((42 : Int32))] [.int u1] (fun u2 => some (.int u2)) (fun _ => h) (fun u2 => [.int u2, .int u1]) hm (fun l u hu => c_Mod_sign hu) rfl (Nat.le_of_ble_eq_true rfl) rfl (by omega) (by omega) (fun _ => rfl) dX12_termOf_16 (fun u2 hm => ?_)
  refine j_if_icmpeq C 38 dX12_termOf_19 (by decide) hm (fun hm => ?_) (fun hm => ?_)
  · refine j_sub (L' := [(0, .ref (G.1 + 84)), (1, .int v1), (2, .long v2)]) [0, 1, 2] rfl ?_
    exact w_Mod_termOf_38 C IH0 IH1 IH2 O hm
  · refine j_aload_n C 0 dX12_termOf_22 rfl rfl ?_
    refine j_aload_n C 0 dX12_termOf_23 rfl rfl ?_
    refine j_gI C f_X12_218 n_84 dX12_termOf_24 ?_
    refine j_cV C l_X12_221 [.int (hI h 84 19)] [] (fun u3 => some (.int u3)) (fun _ => h) (fun u3 => [.int u3]) n_84 hm (fun l u hu => c_Mod_codeAt hu) rfl (Nat.le_of_ble_eq_true rfl) rfl (by omega) (by omega) (fun _ => rfl) dX12_termOf_27 (fun u3 hm => ?_)
    refine j_bipush C 47 dX12_termOf_30 (by decide) ?_
    refine j_cS C l_X12_193 [.int ((47 : Int32))] [.int u3] (fun u4 => some (.int u4)) (fun _ => h) (fun u4 => [.int u4, .int u3]) hm (fun l u hu => c_Mod_sign hu) rfl (Nat.le_of_ble_eq_true rfl) rfl (by omega) (by omega) (fun _ => rfl) dX12_termOf_32 (fun u4 hm => ?_)
    refine j_if_icmpne C 138 dX12_termOf_35 (by decide) hm (fun hm => ?_) (fun hm => ?_)
    · refine j_sub (L' := [(0, .ref (G.1 + 84)), (1, .int v1), (2, .long v2)]) [0, 1, 2] rfl ?_
      exact w_Mod_termOf_38 C IH0 IH1 IH2 O hm
    · refine j_lload_n C 2 dX12_termOf_138 rfl rfl ?_
      obtain rfl := Option.some.inj hm
      exact j_lret C O dX12_termOf_139
theorem k_Mod_termOf_6 {G : jG} {X : jX} {d : Nat} {rc0 : Int32 → Hp → Option (Int64 × Hp)} {rc1 : Int32 → Hp → Option (Int64 × Hp)} {rc2 : Int32 → Hp → Option (Int64 × Hp)} (C : jC G X cX12_termOf 7 RX12 (3 + (d + 1)) (113 + 26 * (d + 1))) (IH0 : ∀ (l : Launch) (v1 : Int32) (h : Hp) (out : (Int64 × Hp)), rc0 v1 h = some out → mt G l yX12_partOf cX12_partOf 4 (some .long) (3 + d) (113 + 26 * d) [.ref (G.1 + 84), .int v1] h (some (.long out.1)) out.2) (IH1 : ∀ (l : Launch) (v1 : Int32) (h : Hp) (out : (Int64 × Hp)), rc1 v1 h = some out → mt G l yX12_sumOf cX12_sumOf 7 (some .long) (3 + d) (113 + 26 * d) [.ref (G.1 + 84), .int v1] h (some (.long out.1)) out.2) (IH2 : ∀ (l : Launch) (v1 : Int32) (h : Hp) (out : (Int64 × Hp)), rc2 v1 h = some out → mt G l yX12_termOf cX12_termOf 7 (some .long) (3 + d) (113 + 26 * d) [.ref (G.1 + 84), .int v1] h (some (.long out.1)) out.2) {v1 : Int32} {v2 : Int64} {h : Hp} {out : (Int64 × Hp)} (O : (O_Mod_termOf G X) out) (hm : lp (fun q => b_Mod_termOf_6 rc0 rc1 rc2 q.1 q.2.1 q.2.2) (v1, v2, h) = some out) : J G X 6 [(0, .ref (G.1 + 84)), (1, .int v1), (2, .long v2)] [] h :=
  lp_ok (P := P_Mod_termOf_6 G X) (O := (O_Mod_termOf G X)) (fun q r hm O => w_Mod_termOf_6 C IH0 IH1 IH2 O hm) hm O
theorem w_Mod_termOf {G : jG} {X : jX} {d : Nat} {rc0 : Int32 → Hp → Option (Int64 × Hp)} {rc1 : Int32 → Hp → Option (Int64 × Hp)} {rc2 : Int32 → Hp → Option (Int64 × Hp)} (C : jC G X cX12_termOf 7 RX12 (3 + (d + 1)) (113 + 26 * (d + 1))) (IH0 : ∀ (l : Launch) (v1 : Int32) (h : Hp) (out : (Int64 × Hp)), rc0 v1 h = some out → mt G l yX12_partOf cX12_partOf 4 (some .long) (3 + d) (113 + 26 * d) [.ref (G.1 + 84), .int v1] h (some (.long out.1)) out.2) (IH1 : ∀ (l : Launch) (v1 : Int32) (h : Hp) (out : (Int64 × Hp)), rc1 v1 h = some out → mt G l yX12_sumOf cX12_sumOf 7 (some .long) (3 + d) (113 + 26 * d) [.ref (G.1 + 84), .int v1] h (some (.long out.1)) out.2) (IH2 : ∀ (l : Launch) (v1 : Int32) (h : Hp) (out : (Int64 × Hp)), rc2 v1 h = some out → mt G l yX12_termOf cX12_termOf 7 (some .long) (3 + d) (113 + 26 * d) [.ref (G.1 + 84), .int v1] h (some (.long out.1)) out.2) {v1 : Int32} {h : Hp} {out : (Int64 × Hp)} (O : (O_Mod_termOf G X) out) (hm : b_Mod_termOf rc0 rc1 rc2 v1 h = some out) : J G X 0 [(0, .ref (G.1 + 84)), (1, .int v1)] [] h := by
  unfold b_Mod_termOf at hm
  refine j_aload_n C 0 dX12_termOf_0 rfl rfl ?_
  refine j_iload_n C 1 dX12_termOf_1 rfl rfl ?_
  refine j_cV C l_X12_240 [.int v1] [] (fun u1 => some (.long u1.1)) (fun u1 => u1.2) (fun u1 => [.long u1.1]) n_84 hm (fun l u hu => IH0 _ _ _ _ hu) rfl (Nat.le_of_ble_eq_true rfl) rfl (by omega) (by omega) (fun _ => rfl) dX12_termOf_2 (fun u1 hm => ?_)
  refine j_lstore_n C [(2, .long u1.1), (0, .ref (G.1 + 84)), (1, .int v1)] dX12_termOf_5 rfl (by decide) rfl ?_
  refine j_sub (L' := [(0, .ref (G.1 + 84)), (1, .int v1), (2, .long u1.1)]) [1, 2, 0] rfl ?_
  exact k_Mod_termOf_6 C IH0 IH1 IH2 O hm
theorem c_r_Mod_partOf {G : jG} : ∀ d : Nat, (∀ (l : Launch) (v1 : Int32) (h : Hp) (out : (Int64 × Hp)), (r_Mod_partOf d).1 v1 h = some out → mt G l yX12_partOf cX12_partOf 4 (some .long) (3 + d) (113 + 26 * d) [.ref (G.1 + 84), .int v1] h (some (.long out.1)) out.2) ∧ (∀ (l : Launch) (v1 : Int32) (h : Hp) (out : (Int64 × Hp)), (r_Mod_partOf d).2.1 v1 h = some out → mt G l yX12_sumOf cX12_sumOf 7 (some .long) (3 + d) (113 + 26 * d) [.ref (G.1 + 84), .int v1] h (some (.long out.1)) out.2) ∧ (∀ (l : Launch) (v1 : Int32) (h : Hp) (out : (Int64 × Hp)), (r_Mod_partOf d).2.2 v1 h = some out → mt G l yX12_termOf cX12_termOf 7 (some .long) (3 + d) (113 + 26 * d) [.ref (G.1 + 84), .int v1] h (some (.long out.1)) out.2)
  | 0 => ⟨fun _ _ _ _ e => (by cases e), fun _ _ _ _ e => (by cases e), fun _ _ _ _ e => (by cases e)⟩
  | d + 1 => by
    obtain ⟨g0, g1, g2⟩ := c_r_Mod_partOf (G := G) d
    exact ⟨fun l v1 h out hm => mt_of (by decide) (Nat.le_of_ble_eq_true rfl) _ rfl (fun X _ C O => w_Mod_partOf C g0 g1 g2 O hm), fun l v1 h out hm => mt_of (by decide) (Nat.le_of_ble_eq_true rfl) _ rfl (fun X _ C O => w_Mod_sumOf C g0 g1 g2 O hm), fun l v1 h out hm => mt_of (by decide) (Nat.le_of_ble_eq_true rfl) _ rfl (fun X _ C O => w_Mod_termOf C g0 g1 g2 O hm)⟩
theorem c_Mod_partOf {G : jG} {l : Launch} {v1 : Int32} {h : Hp} {out : (Int64 × Hp)} (hm : s_Mod_partOf v1 h = some out) : mt G l yX12_partOf cX12_partOf 4 (some .long) 103 2713 [.ref (G.1 + 84), .int v1] h (some (.long out.1)) out.2 := (c_r_Mod_partOf 100).1 l v1 h out hm
theorem c_Mod_sumOf {G : jG} {l : Launch} {v1 : Int32} {h : Hp} {out : (Int64 × Hp)} (hm : s_Mod_sumOf v1 h = some out) : mt G l yX12_sumOf cX12_sumOf 7 (some .long) 103 2713 [.ref (G.1 + 84), .int v1] h (some (.long out.1)) out.2 := (c_r_Mod_partOf 100).2.1 l v1 h out hm
theorem c_Mod_termOf {G : jG} {l : Launch} {v1 : Int32} {h : Hp} {out : (Int64 × Hp)} (hm : s_Mod_termOf v1 h = some out) : mt G l yX12_termOf cX12_termOf 7 (some .long) 103 2713 [.ref (G.1 + 84), .int v1] h (some (.long out.1)) out.2 := (c_r_Mod_partOf 100).2.2 l v1 h out hm
