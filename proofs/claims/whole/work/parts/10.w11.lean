noncomputable def b_Mod_readPart_118 (rc0 : Int32 → Hp → Option Hp) (rc1 : Int32 → Hp → Option Hp) (rc2 : Int32 → Hp → Option Hp) (h : Hp) : Option Hp :=
  some h
noncomputable def b_Mod_readPart_37 (rc0 : Int32 → Hp → Option Hp) (rc1 : Int32 → Hp → Option Hp) (rc2 : Int32 → Hp → Option Hp) (v1 : Int32) (h : Hp) : Option Hp :=
  (s_Mod_fine h).bind fun u1 => if u1 = 0 then
    some h
  else
    (rc1 (v1 + ((1 : Int32))) (sI h 84 16 ((hI h 84 16) + ((1 : Int32))))).bind fun u2 => (s_Mod_sign ((93 : Int32)) u2).bind fun u3 => (s_Mod_must u3 u2).bind fun u4 => b_Mod_readPart_118 rc0 rc1 rc2 u4
noncomputable def b_Mod_readPart_107 (rc0 : Int32 → Hp → Option Hp) (rc1 : Int32 → Hp → Option Hp) (rc2 : Int32 → Hp → Option Hp) (h : Hp) : Option Hp :=
  (s_Mod_leaf h).bind fun u1 => b_Mod_readPart_118 rc0 rc1 rc2 u1
noncomputable def b_Mod_readPart_114 (rc0 : Int32 → Hp → Option Hp) (rc1 : Int32 → Hp → Option Hp) (rc2 : Int32 → Hp → Option Hp) (h : Hp) : Option Hp :=
  (s_Mod_faults h).bind fun u1 => b_Mod_readPart_118 rc0 rc1 rc2 u1
noncomputable def b_Mod_readPart_95 (rc0 : Int32 → Hp → Option Hp) (rc1 : Int32 → Hp → Option Hp) (rc2 : Int32 → Hp → Option Hp) (v2 : Int32) (h : Hp) : Option Hp :=
  if v2 < ((7 : Int32)) then
    b_Mod_readPart_114 rc0 rc1 rc2 h
  else
    if ((13 : Int32)) < v2 then
      b_Mod_readPart_114 rc0 rc1 rc2 h
    else
      b_Mod_readPart_107 rc0 rc1 rc2 h
noncomputable def b_Mod_readPart (rc0 : Int32 → Hp → Option Hp) (rc1 : Int32 → Hp → Option Hp) (rc2 : Int32 → Hp → Option Hp) (v1 : Int32) (h : Hp) : Option Hp :=
  (s_Mod_fine h).bind fun u1 => if u1 = 0 then
    some h
  else
    ib (hI h 84 16) 401 <| (s_Mod_sign ((91 : Int32)) h).bind fun u2 => if (hI h 92 (ix (hI h 84 16))) = u2 then
      if v1 = ((8 : Int32)) then
        (s_Mod_faults h).bind fun u3 => b_Mod_readPart_37 rc0 rc1 rc2 v1 u3
      else
        b_Mod_readPart_37 rc0 rc1 rc2 v1 h
    else
      if (hI h 92 (ix (hI h 84 16))) = ((50 : Int32)) then
        ib (hI h 84 16) 401 <| if (hI h 93 (ix (hI h 84 16))) ≤ ((1000 : Int32)) then
          b_Mod_readPart_107 rc0 rc1 rc2 h
        else
          b_Mod_readPart_95 rc0 rc1 rc2 (hI h 92 (ix (hI h 84 16))) h
      else
        b_Mod_readPart_95 rc0 rc1 rc2 (hI h 92 (ix (hI h 84 16))) h
noncomputable def b_Mod_readSum_29 (rc0 : Int32 → Hp → Option Hp) (rc1 : Int32 → Hp → Option Hp) (rc2 : Int32 → Hp → Option Hp) (v1 : Int32) (h : Hp) : Option ((Int32 × Hp) ⊕ Hp) :=
  (rc2 v1 h).bind fun u1 => some (.inl (v1, u1))
noncomputable def b_Mod_readSum_5 (rc0 : Int32 → Hp → Option Hp) (rc1 : Int32 → Hp → Option Hp) (rc2 : Int32 → Hp → Option Hp) (v1 : Int32) (h : Hp) : Option ((Int32 × Hp) ⊕ Hp) :=
  (s_Mod_sign ((43 : Int32)) h).bind fun u1 => (s_Mod_takes0 u1 h).bind fun u2 => if u2.1 = 0 then
    (s_Mod_sign ((45 : Int32)) u2.2).bind fun u3 => (s_Mod_takes0 u3 u2.2).bind fun u4 => if u4.1 = 0 then
      some (.inr u4.2)
    else
      b_Mod_readSum_29 rc0 rc1 rc2 v1 u4.2
  else
    b_Mod_readSum_29 rc0 rc1 rc2 v1 u2.2
noncomputable def b_Mod_readSum (rc0 : Int32 → Hp → Option Hp) (rc1 : Int32 → Hp → Option Hp) (rc2 : Int32 → Hp → Option Hp) (v1 : Int32) (h : Hp) : Option Hp :=
  (rc2 v1 h).bind fun u1 => lp (fun q => b_Mod_readSum_5 rc0 rc1 rc2 q.1 q.2) (v1, u1)
noncomputable def b_Mod_readTerm_29 (rc0 : Int32 → Hp → Option Hp) (rc1 : Int32 → Hp → Option Hp) (rc2 : Int32 → Hp → Option Hp) (v1 : Int32) (h : Hp) : Option ((Int32 × Hp) ⊕ Hp) :=
  (rc0 v1 h).bind fun u1 => some (.inl (v1, u1))
noncomputable def b_Mod_readTerm_5 (rc0 : Int32 → Hp → Option Hp) (rc1 : Int32 → Hp → Option Hp) (rc2 : Int32 → Hp → Option Hp) (v1 : Int32) (h : Hp) : Option ((Int32 × Hp) ⊕ Hp) :=
  (s_Mod_sign ((42 : Int32)) h).bind fun u1 => (s_Mod_takes0 u1 h).bind fun u2 => if u2.1 = 0 then
    (s_Mod_sign ((47 : Int32)) u2.2).bind fun u3 => (s_Mod_takes0 u3 u2.2).bind fun u4 => if u4.1 = 0 then
      some (.inr u4.2)
    else
      b_Mod_readTerm_29 rc0 rc1 rc2 v1 u4.2
  else
    b_Mod_readTerm_29 rc0 rc1 rc2 v1 u2.2
noncomputable def b_Mod_readTerm (rc0 : Int32 → Hp → Option Hp) (rc1 : Int32 → Hp → Option Hp) (rc2 : Int32 → Hp → Option Hp) (v1 : Int32) (h : Hp) : Option Hp :=
  (rc0 v1 h).bind fun u1 => lp (fun q => b_Mod_readTerm_5 rc0 rc1 rc2 q.1 q.2) (v1, u1)
noncomputable def r_Mod_readPart : Nat → (Int32 → Hp → Option Hp) × (Int32 → Hp → Option Hp) × (Int32 → Hp → Option Hp)
  | 0 => (fun _ _ => none, fun _ _ => none, fun _ _ => none)
  | d + 1 => (b_Mod_readPart ((r_Mod_readPart d).1) ((r_Mod_readPart d).2.1) ((r_Mod_readPart d).2.2), b_Mod_readSum ((r_Mod_readPart d).1) ((r_Mod_readPart d).2.1) ((r_Mod_readPart d).2.2), b_Mod_readTerm ((r_Mod_readPart d).1) ((r_Mod_readPart d).2.1) ((r_Mod_readPart d).2.2))
noncomputable def s_Mod_readPart (v1 : Int32) (h : Hp) : Option Hp := (r_Mod_readPart 80).1 v1 h
noncomputable def s_Mod_readSum (v1 : Int32) (h : Hp) : Option Hp := (r_Mod_readPart 80).2.1 v1 h
noncomputable def s_Mod_readTerm (v1 : Int32) (h : Hp) : Option Hp := (r_Mod_readPart 80).2.2 v1 h
def O_Mod_readPart (G : jG) (X : jX) (out : Hp) : Prop := jO G X (none) none out
def O_Mod_readSum (G : jG) (X : jX) (out : Hp) : Prop := jO G X (none) none out
def P_Mod_readSum_5 (G : jG) (X : jX) (q : Int32 × Hp) : Prop := J G X 5 [(0, .ref (G.1 + 84)), (1, .int q.1)] [] q.2
def O_Mod_readSum_5 (G : jG) (X : jX) (t : ((Int32 × Hp) ⊕ Hp)) : Prop := Sum.elim (P_Mod_readSum_5 G X) (O_Mod_readSum G X) t
def O_Mod_readTerm (G : jG) (X : jX) (out : Hp) : Prop := jO G X (none) none out
def P_Mod_readTerm_5 (G : jG) (X : jX) (q : Int32 × Hp) : Prop := J G X 5 [(0, .ref (G.1 + 84)), (1, .int q.1)] [] q.2
def O_Mod_readTerm_5 (G : jG) (X : jX) (t : ((Int32 × Hp) ⊕ Hp)) : Prop := Sum.elim (P_Mod_readTerm_5 G X) (O_Mod_readTerm G X) t
theorem w_Mod_readPart_118 {G : jG} {X : jX} {d : Nat} {rc0 : Int32 → Hp → Option Hp} {rc1 : Int32 → Hp → Option Hp} {rc2 : Int32 → Hp → Option Hp} (C : jC G X cX12_readPart 3 RX12 (4 + (d + 1)) (133 + 22 * (d + 1))) (IH0 : ∀ (l : Launch) (v1 : Int32) (h : Hp) (out : Hp), rc0 v1 h = some out → mt G l yX12_readPart cX12_readPart 3 (none) (4 + d) (133 + 22 * d) [.ref (G.1 + 84), .int v1] h none out) (IH1 : ∀ (l : Launch) (v1 : Int32) (h : Hp) (out : Hp), rc1 v1 h = some out → mt G l yX12_readSum cX12_readSum 2 (none) (4 + d) (133 + 22 * d) [.ref (G.1 + 84), .int v1] h none out) (IH2 : ∀ (l : Launch) (v1 : Int32) (h : Hp) (out : Hp), rc2 v1 h = some out → mt G l yX12_readTerm cX12_readTerm 2 (none) (4 + d) (133 + 22 * d) [.ref (G.1 + 84), .int v1] h none out) {h : Hp} {out : Hp} (O : (O_Mod_readPart G X) out) (hm : b_Mod_readPart_118 rc0 rc1 rc2 h = some out) : J G X 118 [] [] h := by
  unfold b_Mod_readPart_118 at hm
  obtain rfl := Option.some.inj hm
  exact j_vret C O dX12_readPart_118
theorem w_Mod_readPart_37 {G : jG} {X : jX} {d : Nat} {rc0 : Int32 → Hp → Option Hp} {rc1 : Int32 → Hp → Option Hp} {rc2 : Int32 → Hp → Option Hp} (C : jC G X cX12_readPart 3 RX12 (4 + (d + 1)) (133 + 22 * (d + 1))) (IH0 : ∀ (l : Launch) (v1 : Int32) (h : Hp) (out : Hp), rc0 v1 h = some out → mt G l yX12_readPart cX12_readPart 3 (none) (4 + d) (133 + 22 * d) [.ref (G.1 + 84), .int v1] h none out) (IH1 : ∀ (l : Launch) (v1 : Int32) (h : Hp) (out : Hp), rc1 v1 h = some out → mt G l yX12_readSum cX12_readSum 2 (none) (4 + d) (133 + 22 * d) [.ref (G.1 + 84), .int v1] h none out) (IH2 : ∀ (l : Launch) (v1 : Int32) (h : Hp) (out : Hp), rc2 v1 h = some out → mt G l yX12_readTerm cX12_readTerm 2 (none) (4 + d) (133 + 22 * d) [.ref (G.1 + 84), .int v1] h none out) {v1 : Int32} {h : Hp} {out : Hp} (O : (O_Mod_readPart G X) out) (hm : b_Mod_readPart_37 rc0 rc1 rc2 v1 h = some out) : J G X 37 [(0, .ref (G.1 + 84)), (1, .int v1)] [] h := by
  unfold b_Mod_readPart_37 at hm
  refine j_aload_n C 0 dX12_readPart_37 rfl rfl ?_
  refine j_cV C l_X12_161 [] [] (fun u1 => some (.int u1)) (fun _ => h) (fun u1 => [.int u1]) n_84 hm (fun l u hu => c_Mod_fine hu) rfl (Nat.le_of_ble_eq_true rfl) rfl (by omega) (by omega) (fun _ => rfl) dX12_readPart_38 (fun u1 hm => ?_)
  refine j_ifne C 45 dX12_readPart_41 (by decide) hm (fun hm => ?_) (fun hm => ?_)
  · obtain rfl := Option.some.inj hm
    exact j_vret C O dX12_readPart_44
  · refine j_aload_n C 0 dX12_readPart_45 rfl rfl ?_
    refine j_dup C dX12_readPart_46 rfl ?_
    refine j_gI C f_X12_165 n_84 dX12_readPart_47 ?_
    refine j_iconst C 1 dX12_readPart_50 (by decide) ?_
    refine j_iadd C dX12_readPart_51 ?_
    refine j_pI C f_X12_165 n_84 dX12_readPart_52 ?_
    refine j_aload_n C 0 dX12_readPart_55 rfl rfl ?_
    refine j_iload_n C 1 dX12_readPart_56 rfl rfl ?_
    refine j_iconst C 1 dX12_readPart_57 (by decide) ?_
    refine j_iadd C dX12_readPart_58 ?_
    refine j_cV C l_X12_181 [.int (v1 + ((1 : Int32)))] [] (fun _ => none) (fun u2 => u2) (fun u2 => []) n_84 hm (fun l u hu => IH1 _ _ _ _ hu) rfl (Nat.le_of_ble_eq_true rfl) rfl (by omega) (by omega) (fun _ => rfl) dX12_readPart_59 (fun u2 hm => ?_)
    refine j_aload_n C 0 dX12_readPart_62 rfl rfl ?_
    refine j_bipush C 93 dX12_readPart_63 (by decide) ?_
    refine j_cS C l_X12_193 [.int ((93 : Int32))] [.ref (G.1 + 84)] (fun u3 => some (.int u3)) (fun _ => u2) (fun u3 => [.int u3, .ref (G.1 + 84)]) hm (fun l u hu => c_Mod_sign hu) rfl (Nat.le_of_ble_eq_true rfl) rfl (by omega) (by omega) (fun _ => rfl) dX12_readPart_65 (fun u3 hm => ?_)
    refine j_cV C l_X12_177 [.int u3] [] (fun _ => none) (fun u4 => u4) (fun u4 => []) n_84 hm (fun l u hu => c_Mod_must hu) rfl (Nat.le_of_ble_eq_true rfl) rfl (by omega) (by omega) (fun _ => rfl) dX12_readPart_68 (fun u4 hm => ?_)
    refine j_goto C 118 dX12_readPart_71 (by decide) ?_
    refine j_sub (L' := []) [] rfl ?_
    exact w_Mod_readPart_118 C IH0 IH1 IH2 O hm
theorem w_Mod_readPart_107 {G : jG} {X : jX} {d : Nat} {rc0 : Int32 → Hp → Option Hp} {rc1 : Int32 → Hp → Option Hp} {rc2 : Int32 → Hp → Option Hp} (C : jC G X cX12_readPart 3 RX12 (4 + (d + 1)) (133 + 22 * (d + 1))) (IH0 : ∀ (l : Launch) (v1 : Int32) (h : Hp) (out : Hp), rc0 v1 h = some out → mt G l yX12_readPart cX12_readPart 3 (none) (4 + d) (133 + 22 * d) [.ref (G.1 + 84), .int v1] h none out) (IH1 : ∀ (l : Launch) (v1 : Int32) (h : Hp) (out : Hp), rc1 v1 h = some out → mt G l yX12_readSum cX12_readSum 2 (none) (4 + d) (133 + 22 * d) [.ref (G.1 + 84), .int v1] h none out) (IH2 : ∀ (l : Launch) (v1 : Int32) (h : Hp) (out : Hp), rc2 v1 h = some out → mt G l yX12_readTerm cX12_readTerm 2 (none) (4 + d) (133 + 22 * d) [.ref (G.1 + 84), .int v1] h none out) {h : Hp} {out : Hp} (O : (O_Mod_readPart G X) out) (hm : b_Mod_readPart_107 rc0 rc1 rc2 h = some out) : J G X 107 [(0, .ref (G.1 + 84))] [] h := by
  unfold b_Mod_readPart_107 at hm
  refine j_aload_n C 0 dX12_readPart_107 rfl rfl ?_
  refine j_cV C l_X12_203 [] [] (fun _ => none) (fun u1 => u1) (fun u1 => []) n_84 hm (fun l u hu => c_Mod_leaf hu) rfl (Nat.le_of_ble_eq_true rfl) rfl (by omega) (by omega) (fun _ => rfl) dX12_readPart_108 (fun u1 hm => ?_)
  refine j_goto C 118 dX12_readPart_111 (by decide) ?_
  refine j_sub (L' := []) [] rfl ?_
  exact w_Mod_readPart_118 C IH0 IH1 IH2 O hm
theorem w_Mod_readPart_114 {G : jG} {X : jX} {d : Nat} {rc0 : Int32 → Hp → Option Hp} {rc1 : Int32 → Hp → Option Hp} {rc2 : Int32 → Hp → Option Hp} (C : jC G X cX12_readPart 3 RX12 (4 + (d + 1)) (133 + 22 * (d + 1))) (IH0 : ∀ (l : Launch) (v1 : Int32) (h : Hp) (out : Hp), rc0 v1 h = some out → mt G l yX12_readPart cX12_readPart 3 (none) (4 + d) (133 + 22 * d) [.ref (G.1 + 84), .int v1] h none out) (IH1 : ∀ (l : Launch) (v1 : Int32) (h : Hp) (out : Hp), rc1 v1 h = some out → mt G l yX12_readSum cX12_readSum 2 (none) (4 + d) (133 + 22 * d) [.ref (G.1 + 84), .int v1] h none out) (IH2 : ∀ (l : Launch) (v1 : Int32) (h : Hp) (out : Hp), rc2 v1 h = some out → mt G l yX12_readTerm cX12_readTerm 2 (none) (4 + d) (133 + 22 * d) [.ref (G.1 + 84), .int v1] h none out) {h : Hp} {out : Hp} (O : (O_Mod_readPart G X) out) (hm : b_Mod_readPart_114 rc0 rc1 rc2 h = some out) : J G X 114 [(0, .ref (G.1 + 84))] [] h := by
  unfold b_Mod_readPart_114 at hm
  refine j_aload_n C 0 dX12_readPart_114 rfl rfl ?_
  refine j_cV C l_X12_171 [] [] (fun _ => none) (fun u1 => u1) (fun u1 => []) n_84 hm (fun l u hu => c_Mod_faults hu) rfl (Nat.le_of_ble_eq_true rfl) rfl (by omega) (by omega) (fun _ => rfl) dX12_readPart_115 (fun u1 hm => ?_)
  refine j_sub (L' := []) [] rfl ?_
  exact w_Mod_readPart_118 C IH0 IH1 IH2 O hm
theorem w_Mod_readPart_95 {G : jG} {X : jX} {d : Nat} {rc0 : Int32 → Hp → Option Hp} {rc1 : Int32 → Hp → Option Hp} {rc2 : Int32 → Hp → Option Hp} (C : jC G X cX12_readPart 3 RX12 (4 + (d + 1)) (133 + 22 * (d + 1))) (IH0 : ∀ (l : Launch) (v1 : Int32) (h : Hp) (out : Hp), rc0 v1 h = some out → mt G l yX12_readPart cX12_readPart 3 (none) (4 + d) (133 + 22 * d) [.ref (G.1 + 84), .int v1] h none out) (IH1 : ∀ (l : Launch) (v1 : Int32) (h : Hp) (out : Hp), rc1 v1 h = some out → mt G l yX12_readSum cX12_readSum 2 (none) (4 + d) (133 + 22 * d) [.ref (G.1 + 84), .int v1] h none out) (IH2 : ∀ (l : Launch) (v1 : Int32) (h : Hp) (out : Hp), rc2 v1 h = some out → mt G l yX12_readTerm cX12_readTerm 2 (none) (4 + d) (133 + 22 * d) [.ref (G.1 + 84), .int v1] h none out) {v2 : Int32} {h : Hp} {out : Hp} (O : (O_Mod_readPart G X) out) (hm : b_Mod_readPart_95 rc0 rc1 rc2 v2 h = some out) : J G X 95 [(0, .ref (G.1 + 84)), (2, .int v2)] [] h := by
  unfold b_Mod_readPart_95 at hm
  refine j_iload_n C 1 dX12_readPart_95 rfl rfl ?_
  refine j_bipush C 7 dX12_readPart_96 (by decide) ?_
  refine j_if_icmplt C 114 dX12_readPart_98 (by decide) hm (fun hm => ?_) (fun hm => ?_)
  · refine j_sub (L' := [(0, .ref (G.1 + 84))]) [0] rfl ?_
    exact w_Mod_readPart_114 C IH0 IH1 IH2 O hm
  · refine j_iload_n C 1 dX12_readPart_101 rfl rfl ?_
    refine j_bipush C 13 dX12_readPart_102 (by decide) ?_
    refine j_if_icmpgt C 114 dX12_readPart_104 (by decide) hm (fun hm => ?_) (fun hm => ?_)
    · refine j_sub (L' := [(0, .ref (G.1 + 84))]) [0] rfl ?_
      exact w_Mod_readPart_114 C IH0 IH1 IH2 O hm
    · refine j_sub (L' := [(0, .ref (G.1 + 84))]) [0] rfl ?_
      exact w_Mod_readPart_107 C IH0 IH1 IH2 O hm
theorem w_Mod_readPart {G : jG} {X : jX} {d : Nat} {rc0 : Int32 → Hp → Option Hp} {rc1 : Int32 → Hp → Option Hp} {rc2 : Int32 → Hp → Option Hp} (C : jC G X cX12_readPart 3 RX12 (4 + (d + 1)) (133 + 22 * (d + 1))) (IH0 : ∀ (l : Launch) (v1 : Int32) (h : Hp) (out : Hp), rc0 v1 h = some out → mt G l yX12_readPart cX12_readPart 3 (none) (4 + d) (133 + 22 * d) [.ref (G.1 + 84), .int v1] h none out) (IH1 : ∀ (l : Launch) (v1 : Int32) (h : Hp) (out : Hp), rc1 v1 h = some out → mt G l yX12_readSum cX12_readSum 2 (none) (4 + d) (133 + 22 * d) [.ref (G.1 + 84), .int v1] h none out) (IH2 : ∀ (l : Launch) (v1 : Int32) (h : Hp) (out : Hp), rc2 v1 h = some out → mt G l yX12_readTerm cX12_readTerm 2 (none) (4 + d) (133 + 22 * d) [.ref (G.1 + 84), .int v1] h none out) {v1 : Int32} {h : Hp} {out : Hp} (O : (O_Mod_readPart G X) out) (hm : b_Mod_readPart rc0 rc1 rc2 v1 h = some out) : J G X 0 [(0, .ref (G.1 + 84)), (1, .int v1)] [] h := by
  unfold b_Mod_readPart at hm
  refine j_aload_n C 0 dX12_readPart_0 rfl rfl ?_
  refine j_cV C l_X12_161 [] [] (fun u1 => some (.int u1)) (fun _ => h) (fun u1 => [.int u1]) n_84 hm (fun l u hu => c_Mod_fine hu) rfl (Nat.le_of_ble_eq_true rfl) rfl (by omega) (by omega) (fun _ => rfl) dX12_readPart_1 (fun u1 hm => ?_)
  refine j_ifne C 8 dX12_readPart_4 (by decide) hm (fun hm => ?_) (fun hm => ?_)
  · obtain rfl := Option.some.inj hm
    exact j_vret C O dX12_readPart_7
  · refine j_aload_n C 0 dX12_readPart_8 rfl rfl ?_
    refine j_gS C f_X12_43 n_84 q_84_12 dX12_readPart_9 ?_
    refine j_aload_n C 0 dX12_readPart_12 rfl rfl ?_
    refine j_gI C f_X12_165 n_84 dX12_readPart_13 ?_
    refine j_iald C n_92 hm dX12_readPart_16 (fun hm => ?_)
    refine j_istore_n C [(2, .int (hI h 92 (ix (hI h 84 16)))), (0, .ref (G.1 + 84)), (1, .int v1)] dX12_readPart_17 rfl (by decide) rfl ?_
    refine j_iload_n C 0 dX12_readPart_18 rfl rfl ?_
    refine j_bipush C 91 dX12_readPart_19 (by decide) ?_
    refine j_cS C l_X12_193 [.int ((91 : Int32))] [.int (hI h 92 (ix (hI h 84 16)))] (fun u2 => some (.int u2)) (fun _ => h) (fun u2 => [.int u2, .int (hI h 92 (ix (hI h 84 16)))]) hm (fun l u hu => c_Mod_sign hu) rfl (Nat.le_of_ble_eq_true rfl) rfl (by omega) (by omega) (fun _ => rfl) dX12_readPart_21 (fun u2 hm => ?_)
    refine j_if_icmpne C 74 dX12_readPart_24 (by decide) hm (fun hm => ?_) (fun hm => ?_)
    · refine j_iload_n C 2 dX12_readPart_27 rfl rfl ?_
      refine j_bipush C 8 dX12_readPart_28 (by decide) ?_
      refine j_if_icmpne C 37 dX12_readPart_30 (by decide) hm (fun hm => ?_) (fun hm => ?_)
      · refine j_aload_n C 1 dX12_readPart_33 rfl rfl ?_
        refine j_cV C l_X12_171 [] [] (fun _ => none) (fun u3 => u3) (fun u3 => []) n_84 hm (fun l u hu => c_Mod_faults hu) rfl (Nat.le_of_ble_eq_true rfl) rfl (by omega) (by omega) (fun _ => rfl) dX12_readPart_34 (fun u3 hm => ?_)
        refine j_sub (L' := [(0, .ref (G.1 + 84)), (1, .int v1)]) [1, 2] rfl ?_
        exact w_Mod_readPart_37 C IH0 IH1 IH2 O hm
      · refine j_sub (L' := [(0, .ref (G.1 + 84)), (1, .int v1)]) [1, 2] rfl ?_
        exact w_Mod_readPart_37 C IH0 IH1 IH2 O hm
    · refine j_iload_n C 0 dX12_readPart_74 rfl rfl ?_
      refine j_bipush C 50 dX12_readPart_75 (by decide) ?_
      refine j_if_icmpne C 95 dX12_readPart_77 (by decide) hm (fun hm => ?_) (fun hm => ?_)
      · refine j_aload_n C 1 dX12_readPart_80 rfl rfl ?_
        refine j_gS C f_X12_46 n_84 q_84_13 dX12_readPart_81 ?_
        refine j_aload_n C 1 dX12_readPart_84 rfl rfl ?_
        refine j_gI C f_X12_165 n_84 dX12_readPart_85 ?_
        refine j_iald C n_93 hm dX12_readPart_88 (fun hm => ?_)
        refine j_sipush C 1000 dX12_readPart_89 (by decide) ?_
        refine j_if_icmple C 107 dX12_readPart_92 (by decide) hm (fun hm => ?_) (fun hm => ?_)
        · refine j_sub (L' := [(0, .ref (G.1 + 84))]) [1] rfl ?_
          exact w_Mod_readPart_107 C IH0 IH1 IH2 O hm
        · refine j_sub (L' := [(0, .ref (G.1 + 84)), (2, .int (hI h 92 (ix (hI h 84 16))))]) [1, 0] rfl ?_
          exact w_Mod_readPart_95 C IH0 IH1 IH2 O hm
      · refine j_sub (L' := [(0, .ref (G.1 + 84)), (2, .int (hI h 92 (ix (hI h 84 16))))]) [1, 0] rfl ?_
        exact w_Mod_readPart_95 C IH0 IH1 IH2 O hm
theorem w_Mod_readSum_29 {G : jG} {X : jX} {d : Nat} {rc0 : Int32 → Hp → Option Hp} {rc1 : Int32 → Hp → Option Hp} {rc2 : Int32 → Hp → Option Hp} (C : jC G X cX12_readSum 2 RX12 (4 + (d + 1)) (133 + 22 * (d + 1))) (IH0 : ∀ (l : Launch) (v1 : Int32) (h : Hp) (out : Hp), rc0 v1 h = some out → mt G l yX12_readPart cX12_readPart 3 (none) (4 + d) (133 + 22 * d) [.ref (G.1 + 84), .int v1] h none out) (IH1 : ∀ (l : Launch) (v1 : Int32) (h : Hp) (out : Hp), rc1 v1 h = some out → mt G l yX12_readSum cX12_readSum 2 (none) (4 + d) (133 + 22 * d) [.ref (G.1 + 84), .int v1] h none out) (IH2 : ∀ (l : Launch) (v1 : Int32) (h : Hp) (out : Hp), rc2 v1 h = some out → mt G l yX12_readTerm cX12_readTerm 2 (none) (4 + d) (133 + 22 * d) [.ref (G.1 + 84), .int v1] h none out) {v1 : Int32} {h : Hp} {out : ((Int32 × Hp) ⊕ Hp)} (O : (O_Mod_readSum_5 G X) out) (hm : b_Mod_readSum_29 rc0 rc1 rc2 v1 h = some out) : J G X 29 [(0, .ref (G.1 + 84)), (1, .int v1)] [] h := by
  unfold b_Mod_readSum_29 at hm
  refine j_aload_n C 0 dX12_readSum_29 rfl rfl ?_
  refine j_iload_n C 1 dX12_readSum_30 rfl rfl ?_
  refine j_cV C l_X12_197 [.int v1] [] (fun _ => none) (fun u1 => u1) (fun u1 => []) n_84 hm (fun l u hu => IH2 _ _ _ _ hu) rfl (Nat.le_of_ble_eq_true rfl) rfl (by omega) (by omega) (fun _ => rfl) dX12_readSum_31 (fun u1 hm => ?_)
  refine j_goto C 5 dX12_readSum_34 (by decide) ?_
  obtain rfl := Option.some.inj hm
  refine j_sub (L' := [(0, .ref (G.1 + 84)), (1, .int v1)]) [0, 1] rfl ?_
  exact O
theorem w_Mod_readSum_5 {G : jG} {X : jX} {d : Nat} {rc0 : Int32 → Hp → Option Hp} {rc1 : Int32 → Hp → Option Hp} {rc2 : Int32 → Hp → Option Hp} (C : jC G X cX12_readSum 2 RX12 (4 + (d + 1)) (133 + 22 * (d + 1))) (IH0 : ∀ (l : Launch) (v1 : Int32) (h : Hp) (out : Hp), rc0 v1 h = some out → mt G l yX12_readPart cX12_readPart 3 (none) (4 + d) (133 + 22 * d) [.ref (G.1 + 84), .int v1] h none out) (IH1 : ∀ (l : Launch) (v1 : Int32) (h : Hp) (out : Hp), rc1 v1 h = some out → mt G l yX12_readSum cX12_readSum 2 (none) (4 + d) (133 + 22 * d) [.ref (G.1 + 84), .int v1] h none out) (IH2 : ∀ (l : Launch) (v1 : Int32) (h : Hp) (out : Hp), rc2 v1 h = some out → mt G l yX12_readTerm cX12_readTerm 2 (none) (4 + d) (133 + 22 * d) [.ref (G.1 + 84), .int v1] h none out) {v1 : Int32} {h : Hp} {out : ((Int32 × Hp) ⊕ Hp)} (O : (O_Mod_readSum_5 G X) out) (hm : b_Mod_readSum_5 rc0 rc1 rc2 v1 h = some out) : J G X 5 [(0, .ref (G.1 + 84)), (1, .int v1)] [] h := by
  unfold b_Mod_readSum_5 at hm
  refine j_aload_n C 0 dX12_readSum_5 rfl rfl ?_
  refine j_bipush C 43 dX12_readSum_6 (by decide) ?_
  refine j_cS C l_X12_193 [.int ((43 : Int32))] [.ref (G.1 + 84)] (fun u1 => some (.int u1)) (fun _ => h) (fun u1 => [.int u1, .ref (G.1 + 84)]) hm (fun l u hu => c_Mod_sign hu) rfl (Nat.le_of_ble_eq_true rfl) rfl (by omega) (by omega) (fun _ => rfl) dX12_readSum_8 (fun u1 hm => ?_)
  refine j_cV C l_X12_168 [.int u1] [] (fun u2 => some (.int u2.1)) (fun u2 => u2.2) (fun u2 => [.int u2.1]) n_84 hm (fun l u hu => c_Mod_takes0 hu) rfl (Nat.le_of_ble_eq_true rfl) rfl (by omega) (by omega) (fun _ => rfl) dX12_readSum_11 (fun u2 hm => ?_)
  refine j_ifne C 29 dX12_readSum_14 (by decide) hm (fun hm => ?_) (fun hm => ?_)
  · refine j_aload_n C 0 dX12_readSum_17 rfl rfl ?_
    refine j_bipush C 45 dX12_readSum_18 (by decide) ?_
    refine j_cS C l_X12_193 [.int ((45 : Int32))] [.ref (G.1 + 84)] (fun u3 => some (.int u3)) (fun _ => u2.2) (fun u3 => [.int u3, .ref (G.1 + 84)]) hm (fun l u hu => c_Mod_sign hu) rfl (Nat.le_of_ble_eq_true rfl) rfl (by omega) (by omega) (fun _ => rfl) dX12_readSum_20 (fun u3 hm => ?_)
    refine j_cV C l_X12_168 [.int u3] [] (fun u4 => some (.int u4.1)) (fun u4 => u4.2) (fun u4 => [.int u4.1]) n_84 hm (fun l u hu => c_Mod_takes0 hu) rfl (Nat.le_of_ble_eq_true rfl) rfl (by omega) (by omega) (fun _ => rfl) dX12_readSum_23 (fun u4 hm => ?_)
    refine j_ifeq C 37 dX12_readSum_26 (by decide) hm (fun hm => ?_) (fun hm => ?_)
    · obtain rfl := Option.some.inj hm
      exact j_vret C O dX12_readSum_37
    · refine j_sub (L' := [(0, .ref (G.1 + 84)), (1, .int v1)]) [0, 1] rfl ?_
      exact w_Mod_readSum_29 C IH0 IH1 IH2 O hm
  · refine j_sub (L' := [(0, .ref (G.1 + 84)), (1, .int v1)]) [0, 1] rfl ?_
    exact w_Mod_readSum_29 C IH0 IH1 IH2 O hm
theorem k_Mod_readSum_5 {G : jG} {X : jX} {d : Nat} {rc0 : Int32 → Hp → Option Hp} {rc1 : Int32 → Hp → Option Hp} {rc2 : Int32 → Hp → Option Hp} (C : jC G X cX12_readSum 2 RX12 (4 + (d + 1)) (133 + 22 * (d + 1))) (IH0 : ∀ (l : Launch) (v1 : Int32) (h : Hp) (out : Hp), rc0 v1 h = some out → mt G l yX12_readPart cX12_readPart 3 (none) (4 + d) (133 + 22 * d) [.ref (G.1 + 84), .int v1] h none out) (IH1 : ∀ (l : Launch) (v1 : Int32) (h : Hp) (out : Hp), rc1 v1 h = some out → mt G l yX12_readSum cX12_readSum 2 (none) (4 + d) (133 + 22 * d) [.ref (G.1 + 84), .int v1] h none out) (IH2 : ∀ (l : Launch) (v1 : Int32) (h : Hp) (out : Hp), rc2 v1 h = some out → mt G l yX12_readTerm cX12_readTerm 2 (none) (4 + d) (133 + 22 * d) [.ref (G.1 + 84), .int v1] h none out) {v1 : Int32} {h : Hp} {out : Hp} (O : (O_Mod_readSum G X) out) (hm : lp (fun q => b_Mod_readSum_5 rc0 rc1 rc2 q.1 q.2) (v1, h) = some out) : J G X 5 [(0, .ref (G.1 + 84)), (1, .int v1)] [] h :=
  lp_ok (P := P_Mod_readSum_5 G X) (O := (O_Mod_readSum G X)) (fun q r hm O => w_Mod_readSum_5 C IH0 IH1 IH2 O hm) hm O
theorem w_Mod_readSum {G : jG} {X : jX} {d : Nat} {rc0 : Int32 → Hp → Option Hp} {rc1 : Int32 → Hp → Option Hp} {rc2 : Int32 → Hp → Option Hp} (C : jC G X cX12_readSum 2 RX12 (4 + (d + 1)) (133 + 22 * (d + 1))) (IH0 : ∀ (l : Launch) (v1 : Int32) (h : Hp) (out : Hp), rc0 v1 h = some out → mt G l yX12_readPart cX12_readPart 3 (none) (4 + d) (133 + 22 * d) [.ref (G.1 + 84), .int v1] h none out) (IH1 : ∀ (l : Launch) (v1 : Int32) (h : Hp) (out : Hp), rc1 v1 h = some out → mt G l yX12_readSum cX12_readSum 2 (none) (4 + d) (133 + 22 * d) [.ref (G.1 + 84), .int v1] h none out) (IH2 : ∀ (l : Launch) (v1 : Int32) (h : Hp) (out : Hp), rc2 v1 h = some out → mt G l yX12_readTerm cX12_readTerm 2 (none) (4 + d) (133 + 22 * d) [.ref (G.1 + 84), .int v1] h none out) {v1 : Int32} {h : Hp} {out : Hp} (O : (O_Mod_readSum G X) out) (hm : b_Mod_readSum rc0 rc1 rc2 v1 h = some out) : J G X 0 [(0, .ref (G.1 + 84)), (1, .int v1)] [] h := by
  unfold b_Mod_readSum at hm
  refine j_aload_n C 0 dX12_readSum_0 rfl rfl ?_
  refine j_iload_n C 1 dX12_readSum_1 rfl rfl ?_
  refine j_cV C l_X12_197 [.int v1] [] (fun _ => none) (fun u1 => u1) (fun u1 => []) n_84 hm (fun l u hu => IH2 _ _ _ _ hu) rfl (Nat.le_of_ble_eq_true rfl) rfl (by omega) (by omega) (fun _ => rfl) dX12_readSum_2 (fun u1 hm => ?_)
  refine j_sub (L' := [(0, .ref (G.1 + 84)), (1, .int v1)]) [0, 1] rfl ?_
  exact k_Mod_readSum_5 C IH0 IH1 IH2 O hm
theorem w_Mod_readTerm_29 {G : jG} {X : jX} {d : Nat} {rc0 : Int32 → Hp → Option Hp} {rc1 : Int32 → Hp → Option Hp} {rc2 : Int32 → Hp → Option Hp} (C : jC G X cX12_readTerm 2 RX12 (4 + (d + 1)) (133 + 22 * (d + 1))) (IH0 : ∀ (l : Launch) (v1 : Int32) (h : Hp) (out : Hp), rc0 v1 h = some out → mt G l yX12_readPart cX12_readPart 3 (none) (4 + d) (133 + 22 * d) [.ref (G.1 + 84), .int v1] h none out) (IH1 : ∀ (l : Launch) (v1 : Int32) (h : Hp) (out : Hp), rc1 v1 h = some out → mt G l yX12_readSum cX12_readSum 2 (none) (4 + d) (133 + 22 * d) [.ref (G.1 + 84), .int v1] h none out) (IH2 : ∀ (l : Launch) (v1 : Int32) (h : Hp) (out : Hp), rc2 v1 h = some out → mt G l yX12_readTerm cX12_readTerm 2 (none) (4 + d) (133 + 22 * d) [.ref (G.1 + 84), .int v1] h none out) {v1 : Int32} {h : Hp} {out : ((Int32 × Hp) ⊕ Hp)} (O : (O_Mod_readTerm_5 G X) out) (hm : b_Mod_readTerm_29 rc0 rc1 rc2 v1 h = some out) : J G X 29 [(0, .ref (G.1 + 84)), (1, .int v1)] [] h := by
  unfold b_Mod_readTerm_29 at hm
  refine j_aload_n C 0 dX12_readTerm_29 rfl rfl ?_
  refine j_iload_n C 1 dX12_readTerm_30 rfl rfl ?_
  refine j_cV C l_X12_200 [.int v1] [] (fun _ => none) (fun u1 => u1) (fun u1 => []) n_84 hm (fun l u hu => IH0 _ _ _ _ hu) rfl (Nat.le_of_ble_eq_true rfl) rfl (by omega) (by omega) (fun _ => rfl) dX12_readTerm_31 (fun u1 hm => ?_)
  refine j_goto C 5 dX12_readTerm_34 (by decide) ?_
  obtain rfl := Option.some.inj hm
  refine j_sub (L' := [(0, .ref (G.1 + 84)), (1, .int v1)]) [0, 1] rfl ?_
  exact O
theorem w_Mod_readTerm_5 {G : jG} {X : jX} {d : Nat} {rc0 : Int32 → Hp → Option Hp} {rc1 : Int32 → Hp → Option Hp} {rc2 : Int32 → Hp → Option Hp} (C : jC G X cX12_readTerm 2 RX12 (4 + (d + 1)) (133 + 22 * (d + 1))) (IH0 : ∀ (l : Launch) (v1 : Int32) (h : Hp) (out : Hp), rc0 v1 h = some out → mt G l yX12_readPart cX12_readPart 3 (none) (4 + d) (133 + 22 * d) [.ref (G.1 + 84), .int v1] h none out) (IH1 : ∀ (l : Launch) (v1 : Int32) (h : Hp) (out : Hp), rc1 v1 h = some out → mt G l yX12_readSum cX12_readSum 2 (none) (4 + d) (133 + 22 * d) [.ref (G.1 + 84), .int v1] h none out) (IH2 : ∀ (l : Launch) (v1 : Int32) (h : Hp) (out : Hp), rc2 v1 h = some out → mt G l yX12_readTerm cX12_readTerm 2 (none) (4 + d) (133 + 22 * d) [.ref (G.1 + 84), .int v1] h none out) {v1 : Int32} {h : Hp} {out : ((Int32 × Hp) ⊕ Hp)} (O : (O_Mod_readTerm_5 G X) out) (hm : b_Mod_readTerm_5 rc0 rc1 rc2 v1 h = some out) : J G X 5 [(0, .ref (G.1 + 84)), (1, .int v1)] [] h := by
  unfold b_Mod_readTerm_5 at hm
  refine j_aload_n C 0 dX12_readTerm_5 rfl rfl ?_
  refine j_bipush C 42 dX12_readTerm_6 (by decide) ?_
  refine j_cS C l_X12_193 [.int ((42 : Int32))] [.ref (G.1 + 84)] (fun u1 => some (.int u1)) (fun _ => h) (fun u1 => [.int u1, .ref (G.1 + 84)]) hm (fun l u hu => c_Mod_sign hu) rfl (Nat.le_of_ble_eq_true rfl) rfl (by omega) (by omega) (fun _ => rfl) dX12_readTerm_8 (fun u1 hm => ?_)
  refine j_cV C l_X12_168 [.int u1] [] (fun u2 => some (.int u2.1)) (fun u2 => u2.2) (fun u2 => [.int u2.1]) n_84 hm (fun l u hu => c_Mod_takes0 hu) rfl (Nat.le_of_ble_eq_true rfl) rfl (by omega) (by omega) (fun _ => rfl) dX12_readTerm_11 (fun u2 hm => ?_)
  refine j_ifne C 29 dX12_readTerm_14 (by decide) hm (fun hm => ?_) (fun hm => ?_)
  · refine j_aload_n C 0 dX12_readTerm_17 rfl rfl ?_
    refine j_bipush C 47 dX12_readTerm_18 (by decide) ?_
    refine j_cS C l_X12_193 [.int ((47 : Int32))] [.ref (G.1 + 84)] (fun u3 => some (.int u3)) (fun _ => u2.2) (fun u3 => [.int u3, .ref (G.1 + 84)]) hm (fun l u hu => c_Mod_sign hu) rfl (Nat.le_of_ble_eq_true rfl) rfl (by omega) (by omega) (fun _ => rfl) dX12_readTerm_20 (fun u3 hm => ?_)
    refine j_cV C l_X12_168 [.int u3] [] (fun u4 => some (.int u4.1)) (fun u4 => u4.2) (fun u4 => [.int u4.1]) n_84 hm (fun l u hu => c_Mod_takes0 hu) rfl (Nat.le_of_ble_eq_true rfl) rfl (by omega) (by omega) (fun _ => rfl) dX12_readTerm_23 (fun u4 hm => ?_)
    refine j_ifeq C 37 dX12_readTerm_26 (by decide) hm (fun hm => ?_) (fun hm => ?_)
    · obtain rfl := Option.some.inj hm
      exact j_vret C O dX12_readTerm_37
    · refine j_sub (L' := [(0, .ref (G.1 + 84)), (1, .int v1)]) [0, 1] rfl ?_
      exact w_Mod_readTerm_29 C IH0 IH1 IH2 O hm
  · refine j_sub (L' := [(0, .ref (G.1 + 84)), (1, .int v1)]) [0, 1] rfl ?_
    exact w_Mod_readTerm_29 C IH0 IH1 IH2 O hm
theorem k_Mod_readTerm_5 {G : jG} {X : jX} {d : Nat} {rc0 : Int32 → Hp → Option Hp} {rc1 : Int32 → Hp → Option Hp} {rc2 : Int32 → Hp → Option Hp} (C : jC G X cX12_readTerm 2 RX12 (4 + (d + 1)) (133 + 22 * (d + 1))) (IH0 : ∀ (l : Launch) (v1 : Int32) (h : Hp) (out : Hp), rc0 v1 h = some out → mt G l yX12_readPart cX12_readPart 3 (none) (4 + d) (133 + 22 * d) [.ref (G.1 + 84), .int v1] h none out) (IH1 : ∀ (l : Launch) (v1 : Int32) (h : Hp) (out : Hp), rc1 v1 h = some out → mt G l yX12_readSum cX12_readSum 2 (none) (4 + d) (133 + 22 * d) [.ref (G.1 + 84), .int v1] h none out) (IH2 : ∀ (l : Launch) (v1 : Int32) (h : Hp) (out : Hp), rc2 v1 h = some out → mt G l yX12_readTerm cX12_readTerm 2 (none) (4 + d) (133 + 22 * d) [.ref (G.1 + 84), .int v1] h none out) {v1 : Int32} {h : Hp} {out : Hp} (O : (O_Mod_readTerm G X) out) (hm : lp (fun q => b_Mod_readTerm_5 rc0 rc1 rc2 q.1 q.2) (v1, h) = some out) : J G X 5 [(0, .ref (G.1 + 84)), (1, .int v1)] [] h :=
  lp_ok (P := P_Mod_readTerm_5 G X) (O := (O_Mod_readTerm G X)) (fun q r hm O => w_Mod_readTerm_5 C IH0 IH1 IH2 O hm) hm O
theorem w_Mod_readTerm {G : jG} {X : jX} {d : Nat} {rc0 : Int32 → Hp → Option Hp} {rc1 : Int32 → Hp → Option Hp} {rc2 : Int32 → Hp → Option Hp} (C : jC G X cX12_readTerm 2 RX12 (4 + (d + 1)) (133 + 22 * (d + 1))) (IH0 : ∀ (l : Launch) (v1 : Int32) (h : Hp) (out : Hp), rc0 v1 h = some out → mt G l yX12_readPart cX12_readPart 3 (none) (4 + d) (133 + 22 * d) [.ref (G.1 + 84), .int v1] h none out) (IH1 : ∀ (l : Launch) (v1 : Int32) (h : Hp) (out : Hp), rc1 v1 h = some out → mt G l yX12_readSum cX12_readSum 2 (none) (4 + d) (133 + 22 * d) [.ref (G.1 + 84), .int v1] h none out) (IH2 : ∀ (l : Launch) (v1 : Int32) (h : Hp) (out : Hp), rc2 v1 h = some out → mt G l yX12_readTerm cX12_readTerm 2 (none) (4 + d) (133 + 22 * d) [.ref (G.1 + 84), .int v1] h none out) {v1 : Int32} {h : Hp} {out : Hp} (O : (O_Mod_readTerm G X) out) (hm : b_Mod_readTerm rc0 rc1 rc2 v1 h = some out) : J G X 0 [(0, .ref (G.1 + 84)), (1, .int v1)] [] h := by
  unfold b_Mod_readTerm at hm
  refine j_aload_n C 0 dX12_readTerm_0 rfl rfl ?_
  refine j_iload_n C 1 dX12_readTerm_1 rfl rfl ?_
  refine j_cV C l_X12_200 [.int v1] [] (fun _ => none) (fun u1 => u1) (fun u1 => []) n_84 hm (fun l u hu => IH0 _ _ _ _ hu) rfl (Nat.le_of_ble_eq_true rfl) rfl (by omega) (by omega) (fun _ => rfl) dX12_readTerm_2 (fun u1 hm => ?_)
  refine j_sub (L' := [(0, .ref (G.1 + 84)), (1, .int v1)]) [0, 1] rfl ?_
  exact k_Mod_readTerm_5 C IH0 IH1 IH2 O hm
theorem c_r_Mod_readPart {G : jG} : ∀ d : Nat, (∀ (l : Launch) (v1 : Int32) (h : Hp) (out : Hp), (r_Mod_readPart d).1 v1 h = some out → mt G l yX12_readPart cX12_readPart 3 (none) (4 + d) (133 + 22 * d) [.ref (G.1 + 84), .int v1] h none out) ∧ (∀ (l : Launch) (v1 : Int32) (h : Hp) (out : Hp), (r_Mod_readPart d).2.1 v1 h = some out → mt G l yX12_readSum cX12_readSum 2 (none) (4 + d) (133 + 22 * d) [.ref (G.1 + 84), .int v1] h none out) ∧ (∀ (l : Launch) (v1 : Int32) (h : Hp) (out : Hp), (r_Mod_readPart d).2.2 v1 h = some out → mt G l yX12_readTerm cX12_readTerm 2 (none) (4 + d) (133 + 22 * d) [.ref (G.1 + 84), .int v1] h none out)
  | 0 => ⟨fun _ _ _ _ e => (by cases e), fun _ _ _ _ e => (by cases e), fun _ _ _ _ e => (by cases e)⟩
  | d + 1 => by
    obtain ⟨g0, g1, g2⟩ := c_r_Mod_readPart (G := G) d
    exact ⟨fun l v1 h out hm => mt_of (by decide) (Nat.le_of_ble_eq_true rfl) _ rfl (fun X _ C O => w_Mod_readPart C g0 g1 g2 O hm), fun l v1 h out hm => mt_of (by decide) (Nat.le_of_ble_eq_true rfl) _ rfl (fun X _ C O => w_Mod_readSum C g0 g1 g2 O hm), fun l v1 h out hm => mt_of (by decide) (Nat.le_of_ble_eq_true rfl) _ rfl (fun X _ C O => w_Mod_readTerm C g0 g1 g2 O hm)⟩
theorem c_Mod_readPart {G : jG} {l : Launch} {v1 : Int32} {h : Hp} {out : Hp} (hm : s_Mod_readPart v1 h = some out) : mt G l yX12_readPart cX12_readPart 3 (none) 84 1893 [.ref (G.1 + 84), .int v1] h none out := (c_r_Mod_readPart 80).1 l v1 h out hm
theorem c_Mod_readSum {G : jG} {l : Launch} {v1 : Int32} {h : Hp} {out : Hp} (hm : s_Mod_readSum v1 h = some out) : mt G l yX12_readSum cX12_readSum 2 (none) 84 1893 [.ref (G.1 + 84), .int v1] h none out := (c_r_Mod_readPart 80).2.1 l v1 h out hm
theorem c_Mod_readTerm {G : jG} {l : Launch} {v1 : Int32} {h : Hp} {out : Hp} (hm : s_Mod_readTerm v1 h = some out) : mt G l yX12_readTerm cX12_readTerm 2 (none) 84 1893 [.ref (G.1 + 84), .int v1] h none out := (c_r_Mod_readPart 80).2.2 l v1 h out hm
noncomputable def b_Mod_readBoth_5 (rc0 : Int32 → Hp → Option Hp) (rc1 : Int32 → Hp → Option Hp) (rc2 : Int32 → Hp → Option Hp) (v1 : Int32) (h : Hp) : Option ((Int32 × Hp) ⊕ Hp) :=
  (s_Mod_takes0 ((5 : Int32)) h).bind fun u1 => if u1.1 = 0 then
    some (.inr u1.2)
  else
    (rc1 v1 u1.2).bind fun u2 => some (.inl (v1, u2))
noncomputable def b_Mod_readBoth (rc0 : Int32 → Hp → Option Hp) (rc1 : Int32 → Hp → Option Hp) (rc2 : Int32 → Hp → Option Hp) (v1 : Int32) (h : Hp) : Option Hp :=
  (rc1 v1 h).bind fun u1 => lp (fun q => b_Mod_readBoth_5 rc0 rc1 rc2 q.1 q.2) (v1, u1)
noncomputable def b_Mod_readPlain_133 (rc0 : Int32 → Hp → Option Hp) (rc1 : Int32 → Hp → Option Hp) (rc2 : Int32 → Hp → Option Hp) (h : Hp) : Option Hp :=
  some h
noncomputable def b_Mod_readPlain_53 (rc0 : Int32 → Hp → Option Hp) (rc1 : Int32 → Hp → Option Hp) (rc2 : Int32 → Hp → Option Hp) (v1 : Int32) (h : Hp) : Option Hp :=
  (s_Mod_fine h).bind fun u1 => if u1 = 0 then
    some h
  else
    (rc2 (v1 + ((1 : Int32))) (sI h 84 16 ((hI h 84 16) + ((1 : Int32))))).bind fun u2 => (s_Mod_sign ((41 : Int32)) u2).bind fun u3 => (s_Mod_must u3 u2).bind fun u4 => b_Mod_readPlain_133 rc0 rc1 rc2 u4
noncomputable def b_Mod_readPlain_128 (rc0 : Int32 → Hp → Option Hp) (rc1 : Int32 → Hp → Option Hp) (rc2 : Int32 → Hp → Option Hp) (v1 : Int32) (h : Hp) : Option Hp :=
  (s_Mod_readSum v1 h).bind fun u1 => b_Mod_readPlain_133 rc0 rc1 rc2 u1
noncomputable def b_Mod_readPlain_2 (rc0 : Int32 → Hp → Option Hp) (rc1 : Int32 → Hp → Option Hp) (rc2 : Int32 → Hp → Option Hp) (v1 : Int32) (v2 : Int32) (h : Hp) : Option ((Int32 × Int32 × Hp) ⊕ Hp) :=
  if v2 = 0 then
    (s_Mod_fine h).bind fun u1 => if u1 = 0 then
      some (.inr h)
    else
      ib (hI h 84 16) 401 <| (s_Mod_sign ((40 : Int32)) h).bind fun u2 => if (hI h 92 (ix (hI h 84 16))) = u2 then
        if v1 = ((8 : Int32)) then
          (s_Mod_faults h).bind fun u10 => inr (b_Mod_readPlain_53 rc0 rc1 rc2 v1 u10)
        else
          inr (b_Mod_readPlain_53 rc0 rc1 rc2 v1 h)
      else
        (s_Mod_readSum v1 h).bind fun u3 => (s_Mod_sign ((60 : Int32)) u3).bind fun u4 => (s_Mod_takes0 u4 u3).bind fun u5 => if u5.1 = 0 then
          (s_Mod_sign ((62 : Int32)) u5.2).bind fun u6 => (s_Mod_takes0 u6 u5.2).bind fun u7 => if u7.1 = 0 then
            (s_Mod_sign ((61 : Int32)) u7.2).bind fun u8 => (s_Mod_must u8 u7.2).bind fun u9 => inr (b_Mod_readPlain_128 rc0 rc1 rc2 v1 u9)
          else
            inr (b_Mod_readPlain_128 rc0 rc1 rc2 v1 u7.2)
        else
          inr (b_Mod_readPlain_128 rc0 rc1 rc2 v1 u5.2)
  else
    (s_Mod_takes0 ((6 : Int32)) h).bind fun u11 => some (.inl (v1, u11.1, u11.2))
noncomputable def b_Mod_readPlain (rc0 : Int32 → Hp → Option Hp) (rc1 : Int32 → Hp → Option Hp) (rc2 : Int32 → Hp → Option Hp) (v1 : Int32) (h : Hp) : Option Hp :=
  lp (fun q => b_Mod_readPlain_2 rc0 rc1 rc2 q.1 q.2.1 q.2.2) (v1, ((1 : Int32)), h)
noncomputable def b_Mod_readTest_5 (rc0 : Int32 → Hp → Option Hp) (rc1 : Int32 → Hp → Option Hp) (rc2 : Int32 → Hp → Option Hp) (v1 : Int32) (h : Hp) : Option ((Int32 × Hp) ⊕ Hp) :=
  (s_Mod_takes0 ((4 : Int32)) h).bind fun u1 => if u1.1 = 0 then
    some (.inr u1.2)
  else
    (rc0 v1 u1.2).bind fun u2 => some (.inl (v1, u2))
noncomputable def b_Mod_readTest (rc0 : Int32 → Hp → Option Hp) (rc1 : Int32 → Hp → Option Hp) (rc2 : Int32 → Hp → Option Hp) (v1 : Int32) (h : Hp) : Option Hp :=
  (rc0 v1 h).bind fun u1 => lp (fun q => b_Mod_readTest_5 rc0 rc1 rc2 q.1 q.2) (v1, u1)
noncomputable def r_Mod_readBoth : Nat → (Int32 → Hp → Option Hp) × (Int32 → Hp → Option Hp) × (Int32 → Hp → Option Hp)
  | 0 => (fun _ _ => none, fun _ _ => none, fun _ _ => none)
  | d + 1 => (b_Mod_readBoth ((r_Mod_readBoth d).1) ((r_Mod_readBoth d).2.1) ((r_Mod_readBoth d).2.2), b_Mod_readPlain ((r_Mod_readBoth d).1) ((r_Mod_readBoth d).2.1) ((r_Mod_readBoth d).2.2), b_Mod_readTest ((r_Mod_readBoth d).1) ((r_Mod_readBoth d).2.1) ((r_Mod_readBoth d).2.2))
noncomputable def s_Mod_readBoth (v1 : Int32) (h : Hp) : Option Hp := (r_Mod_readBoth 80).1 v1 h
noncomputable def s_Mod_readPlain (v1 : Int32) (h : Hp) : Option Hp := (r_Mod_readBoth 80).2.1 v1 h
noncomputable def s_Mod_readTest (v1 : Int32) (h : Hp) : Option Hp := (r_Mod_readBoth 80).2.2 v1 h
def O_Mod_readBoth (G : jG) (X : jX) (out : Hp) : Prop := jO G X (none) none out
def P_Mod_readBoth_5 (G : jG) (X : jX) (q : Int32 × Hp) : Prop := J G X 5 [(0, .ref (G.1 + 84)), (1, .int q.1)] [] q.2
def O_Mod_readBoth_5 (G : jG) (X : jX) (t : ((Int32 × Hp) ⊕ Hp)) : Prop := Sum.elim (P_Mod_readBoth_5 G X) (O_Mod_readBoth G X) t
def O_Mod_readPlain (G : jG) (X : jX) (out : Hp) : Prop := jO G X (none) none out
def P_Mod_readPlain_2 (G : jG) (X : jX) (q : Int32 × Int32 × Hp) : Prop := J G X 2 [(0, .ref (G.1 + 84)), (1, .int q.1), (2, .int q.2.1)] [] q.2.2
def O_Mod_readPlain_2 (G : jG) (X : jX) (t : ((Int32 × Int32 × Hp) ⊕ Hp)) : Prop := Sum.elim (P_Mod_readPlain_2 G X) (O_Mod_readPlain G X) t
def O_Mod_readTest (G : jG) (X : jX) (out : Hp) : Prop := jO G X (none) none out
def P_Mod_readTest_5 (G : jG) (X : jX) (q : Int32 × Hp) : Prop := J G X 5 [(0, .ref (G.1 + 84)), (1, .int q.1)] [] q.2
def O_Mod_readTest_5 (G : jG) (X : jX) (t : ((Int32 × Hp) ⊕ Hp)) : Prop := Sum.elim (P_Mod_readTest_5 G X) (O_Mod_readTest G X) t
theorem w_Mod_readBoth_5 {G : jG} {X : jX} {d : Nat} {rc0 : Int32 → Hp → Option Hp} {rc1 : Int32 → Hp → Option Hp} {rc2 : Int32 → Hp → Option Hp} (C : jC G X cX12_readBoth 2 RX12 (85 + (d + 1)) (1914 + 23 * (d + 1))) (IH0 : ∀ (l : Launch) (v1 : Int32) (h : Hp) (out : Hp), rc0 v1 h = some out → mt G l yX12_readBoth cX12_readBoth 2 (none) (85 + d) (1914 + 23 * d) [.ref (G.1 + 84), .int v1] h none out) (IH1 : ∀ (l : Launch) (v1 : Int32) (h : Hp) (out : Hp), rc1 v1 h = some out → mt G l yX12_readPlain cX12_readPlain 4 (none) (85 + d) (1914 + 23 * d) [.ref (G.1 + 84), .int v1] h none out) (IH2 : ∀ (l : Launch) (v1 : Int32) (h : Hp) (out : Hp), rc2 v1 h = some out → mt G l yX12_readTest cX12_readTest 2 (none) (85 + d) (1914 + 23 * d) [.ref (G.1 + 84), .int v1] h none out) {v1 : Int32} {h : Hp} {out : ((Int32 × Hp) ⊕ Hp)} (O : (O_Mod_readBoth_5 G X) out) (hm : b_Mod_readBoth_5 rc0 rc1 rc2 v1 h = some out) : J G X 5 [(0, .ref (G.1 + 84)), (1, .int v1)] [] h := by
  unfold b_Mod_readBoth_5 at hm
  refine j_aload_n C 0 dX12_readBoth_5 rfl rfl ?_
  refine j_iconst C 5 dX12_readBoth_6 (by decide) ?_
  refine j_cV C l_X12_168 [.int ((5 : Int32))] [] (fun u1 => some (.int u1.1)) (fun u1 => u1.2) (fun u1 => [.int u1.1]) n_84 hm (fun l u hu => c_Mod_takes0 hu) rfl (Nat.le_of_ble_eq_true rfl) rfl (by omega) (by omega) (fun _ => rfl) dX12_readBoth_7 (fun u1 hm => ?_)
  refine j_ifeq C 21 dX12_readBoth_10 (by decide) hm (fun hm => ?_) (fun hm => ?_)
  · obtain rfl := Option.some.inj hm
    exact j_vret C O dX12_readBoth_21
  · refine j_aload_n C 0 dX12_readBoth_13 rfl rfl ?_
    refine j_iload_n C 1 dX12_readBoth_14 rfl rfl ?_
    refine j_cV C l_X12_190 [.int v1] [] (fun _ => none) (fun u2 => u2) (fun u2 => []) n_84 hm (fun l u hu => IH1 _ _ _ _ hu) rfl (Nat.le_of_ble_eq_true rfl) rfl (by omega) (by omega) (fun _ => rfl) dX12_readBoth_15 (fun u2 hm => ?_)
    refine j_goto C 5 dX12_readBoth_18 (by decide) ?_
    obtain rfl := Option.some.inj hm
    refine j_sub (L' := [(0, .ref (G.1 + 84)), (1, .int v1)]) [0, 1] rfl ?_
    exact O
theorem k_Mod_readBoth_5 {G : jG} {X : jX} {d : Nat} {rc0 : Int32 → Hp → Option Hp} {rc1 : Int32 → Hp → Option Hp} {rc2 : Int32 → Hp → Option Hp} (C : jC G X cX12_readBoth 2 RX12 (85 + (d + 1)) (1914 + 23 * (d + 1))) (IH0 : ∀ (l : Launch) (v1 : Int32) (h : Hp) (out : Hp), rc0 v1 h = some out → mt G l yX12_readBoth cX12_readBoth 2 (none) (85 + d) (1914 + 23 * d) [.ref (G.1 + 84), .int v1] h none out) (IH1 : ∀ (l : Launch) (v1 : Int32) (h : Hp) (out : Hp), rc1 v1 h = some out → mt G l yX12_readPlain cX12_readPlain 4 (none) (85 + d) (1914 + 23 * d) [.ref (G.1 + 84), .int v1] h none out) (IH2 : ∀ (l : Launch) (v1 : Int32) (h : Hp) (out : Hp), rc2 v1 h = some out → mt G l yX12_readTest cX12_readTest 2 (none) (85 + d) (1914 + 23 * d) [.ref (G.1 + 84), .int v1] h none out) {v1 : Int32} {h : Hp} {out : Hp} (O : (O_Mod_readBoth G X) out) (hm : lp (fun q => b_Mod_readBoth_5 rc0 rc1 rc2 q.1 q.2) (v1, h) = some out) : J G X 5 [(0, .ref (G.1 + 84)), (1, .int v1)] [] h :=
  lp_ok (P := P_Mod_readBoth_5 G X) (O := (O_Mod_readBoth G X)) (fun q r hm O => w_Mod_readBoth_5 C IH0 IH1 IH2 O hm) hm O
theorem w_Mod_readBoth {G : jG} {X : jX} {d : Nat} {rc0 : Int32 → Hp → Option Hp} {rc1 : Int32 → Hp → Option Hp} {rc2 : Int32 → Hp → Option Hp} (C : jC G X cX12_readBoth 2 RX12 (85 + (d + 1)) (1914 + 23 * (d + 1))) (IH0 : ∀ (l : Launch) (v1 : Int32) (h : Hp) (out : Hp), rc0 v1 h = some out → mt G l yX12_readBoth cX12_readBoth 2 (none) (85 + d) (1914 + 23 * d) [.ref (G.1 + 84), .int v1] h none out) (IH1 : ∀ (l : Launch) (v1 : Int32) (h : Hp) (out : Hp), rc1 v1 h = some out → mt G l yX12_readPlain cX12_readPlain 4 (none) (85 + d) (1914 + 23 * d) [.ref (G.1 + 84), .int v1] h none out) (IH2 : ∀ (l : Launch) (v1 : Int32) (h : Hp) (out : Hp), rc2 v1 h = some out → mt G l yX12_readTest cX12_readTest 2 (none) (85 + d) (1914 + 23 * d) [.ref (G.1 + 84), .int v1] h none out) {v1 : Int32} {h : Hp} {out : Hp} (O : (O_Mod_readBoth G X) out) (hm : b_Mod_readBoth rc0 rc1 rc2 v1 h = some out) : J G X 0 [(0, .ref (G.1 + 84)), (1, .int v1)] [] h := by
  unfold b_Mod_readBoth at hm
  refine j_aload_n C 0 dX12_readBoth_0 rfl rfl ?_
  refine j_iload_n C 1 dX12_readBoth_1 rfl rfl ?_
  refine j_cV C l_X12_190 [.int v1] [] (fun _ => none) (fun u1 => u1) (fun u1 => []) n_84 hm (fun l u hu => IH1 _ _ _ _ hu) rfl (Nat.le_of_ble_eq_true rfl) rfl (by omega) (by omega) (fun _ => rfl) dX12_readBoth_2 (fun u1 hm => ?_)
  refine j_sub (L' := [(0, .ref (G.1 + 84)), (1, .int v1)]) [0, 1] rfl ?_
  exact k_Mod_readBoth_5 C IH0 IH1 IH2 O hm
theorem w_Mod_readPlain_133 {G : jG} {X : jX} {d : Nat} {rc0 : Int32 → Hp → Option Hp} {rc1 : Int32 → Hp → Option Hp} {rc2 : Int32 → Hp → Option Hp} (C : jC G X cX12_readPlain 4 RX12 (85 + (d + 1)) (1914 + 23 * (d + 1))) (IH0 : ∀ (l : Launch) (v1 : Int32) (h : Hp) (out : Hp), rc0 v1 h = some out → mt G l yX12_readBoth cX12_readBoth 2 (none) (85 + d) (1914 + 23 * d) [.ref (G.1 + 84), .int v1] h none out) (IH1 : ∀ (l : Launch) (v1 : Int32) (h : Hp) (out : Hp), rc1 v1 h = some out → mt G l yX12_readPlain cX12_readPlain 4 (none) (85 + d) (1914 + 23 * d) [.ref (G.1 + 84), .int v1] h none out) (IH2 : ∀ (l : Launch) (v1 : Int32) (h : Hp) (out : Hp), rc2 v1 h = some out → mt G l yX12_readTest cX12_readTest 2 (none) (85 + d) (1914 + 23 * d) [.ref (G.1 + 84), .int v1] h none out) {h : Hp} {out : Hp} (O : (O_Mod_readPlain G X) out) (hm : b_Mod_readPlain_133 rc0 rc1 rc2 h = some out) : J G X 133 [] [] h := by
  unfold b_Mod_readPlain_133 at hm
  obtain rfl := Option.some.inj hm
  exact j_vret C O dX12_readPlain_133
theorem w_Mod_readPlain_53 {G : jG} {X : jX} {d : Nat} {rc0 : Int32 → Hp → Option Hp} {rc1 : Int32 → Hp → Option Hp} {rc2 : Int32 → Hp → Option Hp} (C : jC G X cX12_readPlain 4 RX12 (85 + (d + 1)) (1914 + 23 * (d + 1))) (IH0 : ∀ (l : Launch) (v1 : Int32) (h : Hp) (out : Hp), rc0 v1 h = some out → mt G l yX12_readBoth cX12_readBoth 2 (none) (85 + d) (1914 + 23 * d) [.ref (G.1 + 84), .int v1] h none out) (IH1 : ∀ (l : Launch) (v1 : Int32) (h : Hp) (out : Hp), rc1 v1 h = some out → mt G l yX12_readPlain cX12_readPlain 4 (none) (85 + d) (1914 + 23 * d) [.ref (G.1 + 84), .int v1] h none out) (IH2 : ∀ (l : Launch) (v1 : Int32) (h : Hp) (out : Hp), rc2 v1 h = some out → mt G l yX12_readTest cX12_readTest 2 (none) (85 + d) (1914 + 23 * d) [.ref (G.1 + 84), .int v1] h none out) {v1 : Int32} {h : Hp} {out : Hp} (O : (O_Mod_readPlain G X) out) (hm : b_Mod_readPlain_53 rc0 rc1 rc2 v1 h = some out) : J G X 53 [(0, .ref (G.1 + 84)), (1, .int v1)] [] h := by
  unfold b_Mod_readPlain_53 at hm
  refine j_aload_n C 0 dX12_readPlain_53 rfl rfl ?_
  refine j_cV C l_X12_161 [] [] (fun u1 => some (.int u1)) (fun _ => h) (fun u1 => [.int u1]) n_84 hm (fun l u hu => c_Mod_fine hu) rfl (Nat.le_of_ble_eq_true rfl) rfl (by omega) (by omega) (fun _ => rfl) dX12_readPlain_54 (fun u1 hm => ?_)
  refine j_ifne C 61 dX12_readPlain_57 (by decide) hm (fun hm => ?_) (fun hm => ?_)
  · obtain rfl := Option.some.inj hm
    exact j_vret C O dX12_readPlain_60
  · refine j_aload_n C 0 dX12_readPlain_61 rfl rfl ?_
    refine j_dup C dX12_readPlain_62 rfl ?_
    refine j_gI C f_X12_165 n_84 dX12_readPlain_63 ?_
    refine j_iconst C 1 dX12_readPlain_66 (by decide) ?_
    refine j_iadd C dX12_readPlain_67 ?_
    refine j_pI C f_X12_165 n_84 dX12_readPlain_68 ?_
    refine j_aload_n C 0 dX12_readPlain_71 rfl rfl ?_
    refine j_iload_n C 1 dX12_readPlain_72 rfl rfl ?_
    refine j_iconst C 1 dX12_readPlain_73 (by decide) ?_
    refine j_iadd C dX12_readPlain_74 ?_
    refine j_cV C l_X12_184 [.int (v1 + ((1 : Int32)))] [] (fun _ => none) (fun u2 => u2) (fun u2 => []) n_84 hm (fun l u hu => IH2 _ _ _ _ hu) rfl (Nat.le_of_ble_eq_true rfl) rfl (by omega) (by omega) (fun _ => rfl) dX12_readPlain_75 (fun u2 hm => ?_)
    refine j_aload_n C 0 dX12_readPlain_78 rfl rfl ?_
    refine j_bipush C 41 dX12_readPlain_79 (by decide) ?_
    refine j_cS C l_X12_193 [.int ((41 : Int32))] [.ref (G.1 + 84)] (fun u3 => some (.int u3)) (fun _ => u2) (fun u3 => [.int u3, .ref (G.1 + 84)]) hm (fun l u hu => c_Mod_sign hu) rfl (Nat.le_of_ble_eq_true rfl) rfl (by omega) (by omega) (fun _ => rfl) dX12_readPlain_81 (fun u3 hm => ?_)
    refine j_cV C l_X12_177 [.int u3] [] (fun _ => none) (fun u4 => u4) (fun u4 => []) n_84 hm (fun l u hu => c_Mod_must hu) rfl (Nat.le_of_ble_eq_true rfl) rfl (by omega) (by omega) (fun _ => rfl) dX12_readPlain_84 (fun u4 hm => ?_)
    refine j_goto C 133 dX12_readPlain_87 (by decide) ?_
    refine j_sub (L' := []) [] rfl ?_
    exact w_Mod_readPlain_133 C IH0 IH1 IH2 O hm
theorem w_Mod_readPlain_128 {G : jG} {X : jX} {d : Nat} {rc0 : Int32 → Hp → Option Hp} {rc1 : Int32 → Hp → Option Hp} {rc2 : Int32 → Hp → Option Hp} (C : jC G X cX12_readPlain 4 RX12 (85 + (d + 1)) (1914 + 23 * (d + 1))) (IH0 : ∀ (l : Launch) (v1 : Int32) (h : Hp) (out : Hp), rc0 v1 h = some out → mt G l yX12_readBoth cX12_readBoth 2 (none) (85 + d) (1914 + 23 * d) [.ref (G.1 + 84), .int v1] h none out) (IH1 : ∀ (l : Launch) (v1 : Int32) (h : Hp) (out : Hp), rc1 v1 h = some out → mt G l yX12_readPlain cX12_readPlain 4 (none) (85 + d) (1914 + 23 * d) [.ref (G.1 + 84), .int v1] h none out) (IH2 : ∀ (l : Launch) (v1 : Int32) (h : Hp) (out : Hp), rc2 v1 h = some out → mt G l yX12_readTest cX12_readTest 2 (none) (85 + d) (1914 + 23 * d) [.ref (G.1 + 84), .int v1] h none out) {v1 : Int32} {h : Hp} {out : Hp} (O : (O_Mod_readPlain G X) out) (hm : b_Mod_readPlain_128 rc0 rc1 rc2 v1 h = some out) : J G X 128 [(0, .ref (G.1 + 84)), (1, .int v1)] [] h := by
  unfold b_Mod_readPlain_128 at hm
  refine j_aload_n C 0 dX12_readPlain_128 rfl rfl ?_
  refine j_iload_n C 1 dX12_readPlain_129 rfl rfl ?_
  refine j_cV C l_X12_181 [.int v1] [] (fun _ => none) (fun u1 => u1) (fun u1 => []) n_84 hm (fun l u hu => c_Mod_readSum hu) rfl (Nat.le_of_ble_eq_true rfl) rfl (by omega) (by omega) (fun _ => rfl) dX12_readPlain_130 (fun u1 hm => ?_)
  refine j_sub (L' := []) [] rfl ?_
  exact w_Mod_readPlain_133 C IH0 IH1 IH2 O hm
theorem w_Mod_readPlain_2 {G : jG} {X : jX} {d : Nat} {rc0 : Int32 → Hp → Option Hp} {rc1 : Int32 → Hp → Option Hp} {rc2 : Int32 → Hp → Option Hp} (C : jC G X cX12_readPlain 4 RX12 (85 + (d + 1)) (1914 + 23 * (d + 1))) (IH0 : ∀ (l : Launch) (v1 : Int32) (h : Hp) (out : Hp), rc0 v1 h = some out → mt G l yX12_readBoth cX12_readBoth 2 (none) (85 + d) (1914 + 23 * d) [.ref (G.1 + 84), .int v1] h none out) (IH1 : ∀ (l : Launch) (v1 : Int32) (h : Hp) (out : Hp), rc1 v1 h = some out → mt G l yX12_readPlain cX12_readPlain 4 (none) (85 + d) (1914 + 23 * d) [.ref (G.1 + 84), .int v1] h none out) (IH2 : ∀ (l : Launch) (v1 : Int32) (h : Hp) (out : Hp), rc2 v1 h = some out → mt G l yX12_readTest cX12_readTest 2 (none) (85 + d) (1914 + 23 * d) [.ref (G.1 + 84), .int v1] h none out) {v1 : Int32} {v2 : Int32} {h : Hp} {out : ((Int32 × Int32 × Hp) ⊕ Hp)} (O : (O_Mod_readPlain_2 G X) out) (hm : b_Mod_readPlain_2 rc0 rc1 rc2 v1 v2 h = some out) : J G X 2 [(0, .ref (G.1 + 84)), (1, .int v1), (2, .int v2)] [] h := by
  unfold b_Mod_readPlain_2 at hm
  refine j_iload_n C 2 dX12_readPlain_2 rfl rfl ?_
  refine j_ifeq C 16 dX12_readPlain_3 (by decide) hm (fun hm => ?_) (fun hm => ?_)
  · refine j_aload_n C 0 dX12_readPlain_16 rfl rfl ?_
    refine j_cV C l_X12_161 [] [] (fun u1 => some (.int u1)) (fun _ => h) (fun u1 => [.int u1]) n_84 hm (fun l u hu => c_Mod_fine hu) rfl (Nat.le_of_ble_eq_true rfl) rfl (by omega) (by omega) (fun _ => rfl) dX12_readPlain_17 (fun u1 hm => ?_)
    refine j_ifne C 24 dX12_readPlain_20 (by decide) hm (fun hm => ?_) (fun hm => ?_)
    · obtain rfl := Option.some.inj hm
      exact j_vret C O dX12_readPlain_23
    · refine j_aload_n C 0 dX12_readPlain_24 rfl rfl ?_
      refine j_gS C f_X12_43 n_84 q_84_12 dX12_readPlain_25 ?_
      refine j_aload_n C 0 dX12_readPlain_28 rfl rfl ?_
      refine j_gI C f_X12_165 n_84 dX12_readPlain_29 ?_
      refine j_iald C n_92 hm dX12_readPlain_32 (fun hm => ?_)
      refine j_istore_n C [(3, .int (hI h 92 (ix (hI h 84 16)))), (0, .ref (G.1 + 84)), (1, .int v1), (2, .int v2)] dX12_readPlain_33 rfl (by decide) rfl ?_
      refine j_iload_n C 0 dX12_readPlain_34 rfl rfl ?_
      refine j_bipush C 40 dX12_readPlain_35 (by decide) ?_
      refine j_cS C l_X12_193 [.int ((40 : Int32))] [.int (hI h 92 (ix (hI h 84 16)))] (fun u2 => some (.int u2)) (fun _ => h) (fun u2 => [.int u2, .int (hI h 92 (ix (hI h 84 16)))]) hm (fun l u hu => c_Mod_sign hu) rfl (Nat.le_of_ble_eq_true rfl) rfl (by omega) (by omega) (fun _ => rfl) dX12_readPlain_37 (fun u2 hm => ?_)
      refine j_if_icmpne C 90 dX12_readPlain_40 (by decide) hm (fun hm => ?_) (fun hm => ?_)
      · refine j_iload_n C 2 dX12_readPlain_43 rfl rfl ?_
        refine j_bipush C 8 dX12_readPlain_44 (by decide) ?_
        refine j_if_icmpne C 53 dX12_readPlain_46 (by decide) hm (fun hm => ?_) (fun hm => ?_)
        · refine j_aload_n C 1 dX12_readPlain_49 rfl rfl ?_
          refine j_cV C l_X12_171 [] [] (fun _ => none) (fun u10 => u10) (fun u10 => []) n_84 hm (fun l u hu => c_Mod_faults hu) rfl (Nat.le_of_ble_eq_true rfl) rfl (by omega) (by omega) (fun _ => rfl) dX12_readPlain_50 (fun u10 hm => ?_)
          obtain ⟨o_0, hm_0, rfl⟩ := inr_inv hm
          refine j_sub (L' := [(0, .ref (G.1 + 84)), (1, .int v1)]) [1, 2] rfl ?_
          exact w_Mod_readPlain_53 C IH0 IH1 IH2 O hm_0
        · obtain ⟨o_0, hm_0, rfl⟩ := inr_inv hm
          refine j_sub (L' := [(0, .ref (G.1 + 84)), (1, .int v1)]) [1, 2] rfl ?_
          exact w_Mod_readPlain_53 C IH0 IH1 IH2 O hm_0
      · refine j_aload_n C 1 dX12_readPlain_90 rfl rfl ?_
        refine j_iload_n C 2 dX12_readPlain_91 rfl rfl ?_
        refine j_cV C l_X12_181 [.int v1] [] (fun _ => none) (fun u3 => u3) (fun u3 => []) n_84 hm (fun l u hu => c_Mod_readSum hu) rfl (Nat.le_of_ble_eq_true rfl) rfl (by omega) (by omega) (fun _ => rfl) dX12_readPlain_92 (fun u3 hm => ?_)
        refine j_aload_n C 1 dX12_readPlain_95 rfl rfl ?_
        refine j_bipush C 60 dX12_readPlain_96 (by decide) ?_
        refine j_cS C l_X12_193 [.int ((60 : Int32))] [.ref (G.1 + 84)] (fun u4 => some (.int u4)) (fun _ => u3) (fun u4 => [.int u4, .ref (G.1 + 84)]) hm (fun l u hu => c_Mod_sign hu) rfl (Nat.le_of_ble_eq_true rfl) rfl (by omega) (by omega) (fun _ => rfl) dX12_readPlain_98 (fun u4 hm => ?_)
        refine j_cV C l_X12_168 [.int u4] [] (fun u5 => some (.int u5.1)) (fun u5 => u5.2) (fun u5 => [.int u5.1]) n_84 hm (fun l u hu => c_Mod_takes0 hu) rfl (Nat.le_of_ble_eq_true rfl) rfl (by omega) (by omega) (fun _ => rfl) dX12_readPlain_101 (fun u5 hm => ?_)
        refine j_ifne C 128 dX12_readPlain_104 (by decide) hm (fun hm => ?_) (fun hm => ?_)
        · refine j_aload_n C 1 dX12_readPlain_107 rfl rfl ?_
          refine j_bipush C 62 dX12_readPlain_108 (by decide) ?_
          refine j_cS C l_X12_193 [.int ((62 : Int32))] [.ref (G.1 + 84)] (fun u6 => some (.int u6)) (fun _ => u5.2) (fun u6 => [.int u6, .ref (G.1 + 84)]) hm (fun l u hu => c_Mod_sign hu) rfl (Nat.le_of_ble_eq_true rfl) rfl (by omega) (by omega) (fun _ => rfl) dX12_readPlain_110 (fun u6 hm => ?_)
          refine j_cV C l_X12_168 [.int u6] [] (fun u7 => some (.int u7.1)) (fun u7 => u7.2) (fun u7 => [.int u7.1]) n_84 hm (fun l u hu => c_Mod_takes0 hu) rfl (Nat.le_of_ble_eq_true rfl) rfl (by omega) (by omega) (fun _ => rfl) dX12_readPlain_113 (fun u7 hm => ?_)
          refine j_ifne C 128 dX12_readPlain_116 (by decide) hm (fun hm => ?_) (fun hm => ?_)
          · refine j_aload_n C 1 dX12_readPlain_119 rfl rfl ?_
            refine j_bipush C 61 dX12_readPlain_120 (by decide) ?_
            refine j_cS C l_X12_193 [.int ((61 : Int32))] [.ref (G.1 + 84)] (fun u8 => some (.int u8)) (fun _ => u7.2) (fun u8 => [.int u8, .ref (G.1 + 84)]) hm (fun l u hu => c_Mod_sign hu) rfl (Nat.le_of_ble_eq_true rfl) rfl (by omega) (by omega) (fun _ => rfl) dX12_readPlain_122 (fun u8 hm => ?_)
            refine j_cV C l_X12_177 [.int u8] [] (fun _ => none) (fun u9 => u9) (fun u9 => []) n_84 hm (fun l u hu => c_Mod_must hu) rfl (Nat.le_of_ble_eq_true rfl) rfl (by omega) (by omega) (fun _ => rfl) dX12_readPlain_125 (fun u9 hm => ?_)
            obtain ⟨o_0, hm_0, rfl⟩ := inr_inv hm
            refine j_sub (L' := [(0, .ref (G.1 + 84)), (1, .int v1)]) [1, 2] rfl ?_
            exact w_Mod_readPlain_128 C IH0 IH1 IH2 O hm_0
          · obtain ⟨o_0, hm_0, rfl⟩ := inr_inv hm
            refine j_sub (L' := [(0, .ref (G.1 + 84)), (1, .int v1)]) [1, 2] rfl ?_
            exact w_Mod_readPlain_128 C IH0 IH1 IH2 O hm_0
        · obtain ⟨o_0, hm_0, rfl⟩ := inr_inv hm
          refine j_sub (L' := [(0, .ref (G.1 + 84)), (1, .int v1)]) [1, 2] rfl ?_
          exact w_Mod_readPlain_128 C IH0 IH1 IH2 O hm_0
  · refine j_aload_n C 0 dX12_readPlain_6 rfl rfl ?_
    refine j_bipush C 6 dX12_readPlain_7 (by decide) ?_
    refine j_cV C l_X12_168 [.int ((6 : Int32))] [] (fun u11 => some (.int u11.1)) (fun u11 => u11.2) (fun u11 => [.int u11.1]) n_84 hm (fun l u hu => c_Mod_takes0 hu) rfl (Nat.le_of_ble_eq_true rfl) rfl (by omega) (by omega) (fun _ => rfl) dX12_readPlain_9 (fun u11 hm => ?_)
    refine j_istore_n C [(2, .int u11.1), (0, .ref (G.1 + 84)), (1, .int v1)] dX12_readPlain_12 rfl (by decide) rfl ?_
    refine j_goto C 2 dX12_readPlain_13 (by decide) ?_
    obtain rfl := Option.some.inj hm
    refine j_sub (L' := [(0, .ref (G.1 + 84)), (1, .int v1), (2, .int u11.1)]) [1, 2, 0] rfl ?_
    exact O
theorem k_Mod_readPlain_2 {G : jG} {X : jX} {d : Nat} {rc0 : Int32 → Hp → Option Hp} {rc1 : Int32 → Hp → Option Hp} {rc2 : Int32 → Hp → Option Hp} (C : jC G X cX12_readPlain 4 RX12 (85 + (d + 1)) (1914 + 23 * (d + 1))) (IH0 : ∀ (l : Launch) (v1 : Int32) (h : Hp) (out : Hp), rc0 v1 h = some out → mt G l yX12_readBoth cX12_readBoth 2 (none) (85 + d) (1914 + 23 * d) [.ref (G.1 + 84), .int v1] h none out) (IH1 : ∀ (l : Launch) (v1 : Int32) (h : Hp) (out : Hp), rc1 v1 h = some out → mt G l yX12_readPlain cX12_readPlain 4 (none) (85 + d) (1914 + 23 * d) [.ref (G.1 + 84), .int v1] h none out) (IH2 : ∀ (l : Launch) (v1 : Int32) (h : Hp) (out : Hp), rc2 v1 h = some out → mt G l yX12_readTest cX12_readTest 2 (none) (85 + d) (1914 + 23 * d) [.ref (G.1 + 84), .int v1] h none out) {v1 : Int32} {v2 : Int32} {h : Hp} {out : Hp} (O : (O_Mod_readPlain G X) out) (hm : lp (fun q => b_Mod_readPlain_2 rc0 rc1 rc2 q.1 q.2.1 q.2.2) (v1, v2, h) = some out) : J G X 2 [(0, .ref (G.1 + 84)), (1, .int v1), (2, .int v2)] [] h :=
  lp_ok (P := P_Mod_readPlain_2 G X) (O := (O_Mod_readPlain G X)) (fun q r hm O => w_Mod_readPlain_2 C IH0 IH1 IH2 O hm) hm O
theorem w_Mod_readPlain {G : jG} {X : jX} {d : Nat} {rc0 : Int32 → Hp → Option Hp} {rc1 : Int32 → Hp → Option Hp} {rc2 : Int32 → Hp → Option Hp} (C : jC G X cX12_readPlain 4 RX12 (85 + (d + 1)) (1914 + 23 * (d + 1))) (IH0 : ∀ (l : Launch) (v1 : Int32) (h : Hp) (out : Hp), rc0 v1 h = some out → mt G l yX12_readBoth cX12_readBoth 2 (none) (85 + d) (1914 + 23 * d) [.ref (G.1 + 84), .int v1] h none out) (IH1 : ∀ (l : Launch) (v1 : Int32) (h : Hp) (out : Hp), rc1 v1 h = some out → mt G l yX12_readPlain cX12_readPlain 4 (none) (85 + d) (1914 + 23 * d) [.ref (G.1 + 84), .int v1] h none out) (IH2 : ∀ (l : Launch) (v1 : Int32) (h : Hp) (out : Hp), rc2 v1 h = some out → mt G l yX12_readTest cX12_readTest 2 (none) (85 + d) (1914 + 23 * d) [.ref (G.1 + 84), .int v1] h none out) {v1 : Int32} {h : Hp} {out : Hp} (O : (O_Mod_readPlain G X) out) (hm : b_Mod_readPlain rc0 rc1 rc2 v1 h = some out) : J G X 0 [(0, .ref (G.1 + 84)), (1, .int v1)] [] h := by
  unfold b_Mod_readPlain at hm
  refine j_iconst C 1 dX12_readPlain_0 (by decide) ?_
  refine j_istore_n C [(2, .int ((1 : Int32))), (0, .ref (G.1 + 84)), (1, .int v1)] dX12_readPlain_1 rfl (by decide) rfl ?_
  refine j_sub (L' := [(0, .ref (G.1 + 84)), (1, .int v1), (2, .int ((1 : Int32)))]) [1, 2, 0] rfl ?_
  exact k_Mod_readPlain_2 C IH0 IH1 IH2 O hm
theorem w_Mod_readTest_5 {G : jG} {X : jX} {d : Nat} {rc0 : Int32 → Hp → Option Hp} {rc1 : Int32 → Hp → Option Hp} {rc2 : Int32 → Hp → Option Hp} (C : jC G X cX12_readTest 2 RX12 (85 + (d + 1)) (1914 + 23 * (d + 1))) (IH0 : ∀ (l : Launch) (v1 : Int32) (h : Hp) (out : Hp), rc0 v1 h = some out → mt G l yX12_readBoth cX12_readBoth 2 (none) (85 + d) (1914 + 23 * d) [.ref (G.1 + 84), .int v1] h none out) (IH1 : ∀ (l : Launch) (v1 : Int32) (h : Hp) (out : Hp), rc1 v1 h = some out → mt G l yX12_readPlain cX12_readPlain 4 (none) (85 + d) (1914 + 23 * d) [.ref (G.1 + 84), .int v1] h none out) (IH2 : ∀ (l : Launch) (v1 : Int32) (h : Hp) (out : Hp), rc2 v1 h = some out → mt G l yX12_readTest cX12_readTest 2 (none) (85 + d) (1914 + 23 * d) [.ref (G.1 + 84), .int v1] h none out) {v1 : Int32} {h : Hp} {out : ((Int32 × Hp) ⊕ Hp)} (O : (O_Mod_readTest_5 G X) out) (hm : b_Mod_readTest_5 rc0 rc1 rc2 v1 h = some out) : J G X 5 [(0, .ref (G.1 + 84)), (1, .int v1)] [] h := by
  unfold b_Mod_readTest_5 at hm
  refine j_aload_n C 0 dX12_readTest_5 rfl rfl ?_
  refine j_iconst C 4 dX12_readTest_6 (by decide) ?_
  refine j_cV C l_X12_168 [.int ((4 : Int32))] [] (fun u1 => some (.int u1.1)) (fun u1 => u1.2) (fun u1 => [.int u1.1]) n_84 hm (fun l u hu => c_Mod_takes0 hu) rfl (Nat.le_of_ble_eq_true rfl) rfl (by omega) (by omega) (fun _ => rfl) dX12_readTest_7 (fun u1 hm => ?_)
  refine j_ifeq C 21 dX12_readTest_10 (by decide) hm (fun hm => ?_) (fun hm => ?_)
  · obtain rfl := Option.some.inj hm
    exact j_vret C O dX12_readTest_21
  · refine j_aload_n C 0 dX12_readTest_13 rfl rfl ?_
    refine j_iload_n C 1 dX12_readTest_14 rfl rfl ?_
    refine j_cV C l_X12_187 [.int v1] [] (fun _ => none) (fun u2 => u2) (fun u2 => []) n_84 hm (fun l u hu => IH0 _ _ _ _ hu) rfl (Nat.le_of_ble_eq_true rfl) rfl (by omega) (by omega) (fun _ => rfl) dX12_readTest_15 (fun u2 hm => ?_)
    refine j_goto C 5 dX12_readTest_18 (by decide) ?_
    obtain rfl := Option.some.inj hm
    refine j_sub (L' := [(0, .ref (G.1 + 84)), (1, .int v1)]) [0, 1] rfl ?_
    exact O
theorem k_Mod_readTest_5 {G : jG} {X : jX} {d : Nat} {rc0 : Int32 → Hp → Option Hp} {rc1 : Int32 → Hp → Option Hp} {rc2 : Int32 → Hp → Option Hp} (C : jC G X cX12_readTest 2 RX12 (85 + (d + 1)) (1914 + 23 * (d + 1))) (IH0 : ∀ (l : Launch) (v1 : Int32) (h : Hp) (out : Hp), rc0 v1 h = some out → mt G l yX12_readBoth cX12_readBoth 2 (none) (85 + d) (1914 + 23 * d) [.ref (G.1 + 84), .int v1] h none out) (IH1 : ∀ (l : Launch) (v1 : Int32) (h : Hp) (out : Hp), rc1 v1 h = some out → mt G l yX12_readPlain cX12_readPlain 4 (none) (85 + d) (1914 + 23 * d) [.ref (G.1 + 84), .int v1] h none out) (IH2 : ∀ (l : Launch) (v1 : Int32) (h : Hp) (out : Hp), rc2 v1 h = some out → mt G l yX12_readTest cX12_readTest 2 (none) (85 + d) (1914 + 23 * d) [.ref (G.1 + 84), .int v1] h none out) {v1 : Int32} {h : Hp} {out : Hp} (O : (O_Mod_readTest G X) out) (hm : lp (fun q => b_Mod_readTest_5 rc0 rc1 rc2 q.1 q.2) (v1, h) = some out) : J G X 5 [(0, .ref (G.1 + 84)), (1, .int v1)] [] h :=
  lp_ok (P := P_Mod_readTest_5 G X) (O := (O_Mod_readTest G X)) (fun q r hm O => w_Mod_readTest_5 C IH0 IH1 IH2 O hm) hm O
theorem w_Mod_readTest {G : jG} {X : jX} {d : Nat} {rc0 : Int32 → Hp → Option Hp} {rc1 : Int32 → Hp → Option Hp} {rc2 : Int32 → Hp → Option Hp} (C : jC G X cX12_readTest 2 RX12 (85 + (d + 1)) (1914 + 23 * (d + 1))) (IH0 : ∀ (l : Launch) (v1 : Int32) (h : Hp) (out : Hp), rc0 v1 h = some out → mt G l yX12_readBoth cX12_readBoth 2 (none) (85 + d) (1914 + 23 * d) [.ref (G.1 + 84), .int v1] h none out) (IH1 : ∀ (l : Launch) (v1 : Int32) (h : Hp) (out : Hp), rc1 v1 h = some out → mt G l yX12_readPlain cX12_readPlain 4 (none) (85 + d) (1914 + 23 * d) [.ref (G.1 + 84), .int v1] h none out) (IH2 : ∀ (l : Launch) (v1 : Int32) (h : Hp) (out : Hp), rc2 v1 h = some out → mt G l yX12_readTest cX12_readTest 2 (none) (85 + d) (1914 + 23 * d) [.ref (G.1 + 84), .int v1] h none out) {v1 : Int32} {h : Hp} {out : Hp} (O : (O_Mod_readTest G X) out) (hm : b_Mod_readTest rc0 rc1 rc2 v1 h = some out) : J G X 0 [(0, .ref (G.1 + 84)), (1, .int v1)] [] h := by
  unfold b_Mod_readTest at hm
  refine j_aload_n C 0 dX12_readTest_0 rfl rfl ?_
  refine j_iload_n C 1 dX12_readTest_1 rfl rfl ?_
  refine j_cV C l_X12_187 [.int v1] [] (fun _ => none) (fun u1 => u1) (fun u1 => []) n_84 hm (fun l u hu => IH0 _ _ _ _ hu) rfl (Nat.le_of_ble_eq_true rfl) rfl (by omega) (by omega) (fun _ => rfl) dX12_readTest_2 (fun u1 hm => ?_)
  refine j_sub (L' := [(0, .ref (G.1 + 84)), (1, .int v1)]) [0, 1] rfl ?_
  exact k_Mod_readTest_5 C IH0 IH1 IH2 O hm
theorem c_r_Mod_readBoth {G : jG} : ∀ d : Nat, (∀ (l : Launch) (v1 : Int32) (h : Hp) (out : Hp), (r_Mod_readBoth d).1 v1 h = some out → mt G l yX12_readBoth cX12_readBoth 2 (none) (85 + d) (1914 + 23 * d) [.ref (G.1 + 84), .int v1] h none out) ∧ (∀ (l : Launch) (v1 : Int32) (h : Hp) (out : Hp), (r_Mod_readBoth d).2.1 v1 h = some out → mt G l yX12_readPlain cX12_readPlain 4 (none) (85 + d) (1914 + 23 * d) [.ref (G.1 + 84), .int v1] h none out) ∧ (∀ (l : Launch) (v1 : Int32) (h : Hp) (out : Hp), (r_Mod_readBoth d).2.2 v1 h = some out → mt G l yX12_readTest cX12_readTest 2 (none) (85 + d) (1914 + 23 * d) [.ref (G.1 + 84), .int v1] h none out)
  | 0 => ⟨fun _ _ _ _ e => (by cases e), fun _ _ _ _ e => (by cases e), fun _ _ _ _ e => (by cases e)⟩
  | d + 1 => by
    obtain ⟨g0, g1, g2⟩ := c_r_Mod_readBoth (G := G) d
    exact ⟨fun l v1 h out hm => mt_of (by decide) (Nat.le_of_ble_eq_true rfl) _ rfl (fun X _ C O => w_Mod_readBoth C g0 g1 g2 O hm), fun l v1 h out hm => mt_of (by decide) (Nat.le_of_ble_eq_true rfl) _ rfl (fun X _ C O => w_Mod_readPlain C g0 g1 g2 O hm), fun l v1 h out hm => mt_of (by decide) (Nat.le_of_ble_eq_true rfl) _ rfl (fun X _ C O => w_Mod_readTest C g0 g1 g2 O hm)⟩
theorem c_Mod_readBoth {G : jG} {l : Launch} {v1 : Int32} {h : Hp} {out : Hp} (hm : s_Mod_readBoth v1 h = some out) : mt G l yX12_readBoth cX12_readBoth 2 (none) 165 3754 [.ref (G.1 + 84), .int v1] h none out := (c_r_Mod_readBoth 80).1 l v1 h out hm
theorem c_Mod_readPlain {G : jG} {l : Launch} {v1 : Int32} {h : Hp} {out : Hp} (hm : s_Mod_readPlain v1 h = some out) : mt G l yX12_readPlain cX12_readPlain 4 (none) 165 3754 [.ref (G.1 + 84), .int v1] h none out := (c_r_Mod_readBoth 80).2.1 l v1 h out hm
theorem c_Mod_readTest {G : jG} {l : Launch} {v1 : Int32} {h : Hp} {out : Hp} (hm : s_Mod_readTest v1 h = some out) : mt G l yX12_readTest cX12_readTest 2 (none) 165 3754 [.ref (G.1 + 84), .int v1] h none out := (c_r_Mod_readBoth 80).2.2 l v1 h out hm
noncomputable def s_Mod_readClause_31 (h : Hp) : Option Hp :=
  some h
noncomputable def s_Mod_readClause_13 (h : Hp) : Option Hp :=
  (s_Mod_readSum ((0 : Int32)) h).bind fun u1 => (s_Mod_takes0 ((3 : Int32)) u1).bind fun u2 => if u2.1 = 0 then
    s_Mod_readClause_31 u2.2
  else
    (s_Mod_readTest ((0 : Int32)) u2.2).bind fun u3 => s_Mod_readClause_31 u3
noncomputable def s_Mod_readClause (h : Hp) : Option Hp :=
  (s_Mod_takes0 ((1 : Int32)) h).bind fun u1 => if u1.1 = 0 then
    (s_Mod_must ((2 : Int32)) u1.2).bind fun u2 => s_Mod_readClause_13 u2
  else
    s_Mod_readClause_13 u1.2
def O_Mod_readClause (G : jG) (X : jX) (out : Hp) : Prop := jO G X (none) none out
theorem w_Mod_readClause_31 {G : jG} {X : jX} (C : jC G X cX12_readClause 1 RX12 166 3775) {h : Hp} {out : Hp} (O : (O_Mod_readClause G X) out) (hm : s_Mod_readClause_31 h = some out) : J G X 31 [] [] h := by
  unfold s_Mod_readClause_31 at hm
  obtain rfl := Option.some.inj hm
  exact j_vret C O dX12_readClause_31
theorem w_Mod_readClause_13 {G : jG} {X : jX} (C : jC G X cX12_readClause 1 RX12 166 3775) {h : Hp} {out : Hp} (O : (O_Mod_readClause G X) out) (hm : s_Mod_readClause_13 h = some out) : J G X 13 [(0, .ref (G.1 + 84))] [] h := by
  unfold s_Mod_readClause_13 at hm
  refine j_aload_n C 0 dX12_readClause_13 rfl rfl ?_
  refine j_iconst C 0 dX12_readClause_14 (by decide) ?_
  refine j_cV C l_X12_181 [.int ((0 : Int32))] [] (fun _ => none) (fun u1 => u1) (fun u1 => []) n_84 hm (fun l u hu => c_Mod_readSum hu) rfl (Nat.le_of_ble_eq_true rfl) rfl (Nat.le_of_ble_eq_true rfl) (Nat.le_of_ble_eq_true rfl) (fun _ => rfl) dX12_readClause_15 (fun u1 hm => ?_)
  refine j_aload_n C 0 dX12_readClause_18 rfl rfl ?_
  refine j_iconst C 3 dX12_readClause_19 (by decide) ?_
  refine j_cV C l_X12_168 [.int ((3 : Int32))] [] (fun u2 => some (.int u2.1)) (fun u2 => u2.2) (fun u2 => [.int u2.1]) n_84 hm (fun l u hu => c_Mod_takes0 hu) rfl (Nat.le_of_ble_eq_true rfl) rfl (Nat.le_of_ble_eq_true rfl) (Nat.le_of_ble_eq_true rfl) (fun _ => rfl) dX12_readClause_20 (fun u2 hm => ?_)
  refine j_ifeq C 31 dX12_readClause_23 (by decide) hm (fun hm => ?_) (fun hm => ?_)
  · refine j_sub (L' := []) [] rfl ?_
    exact w_Mod_readClause_31 C O hm
  · refine j_aload_n C 0 dX12_readClause_26 rfl rfl ?_
    refine j_iconst C 0 dX12_readClause_27 (by decide) ?_
    refine j_cV C l_X12_184 [.int ((0 : Int32))] [] (fun _ => none) (fun u3 => u3) (fun u3 => []) n_84 hm (fun l u hu => c_Mod_readTest hu) rfl (Nat.le_of_ble_eq_true rfl) rfl (Nat.le_of_ble_eq_true rfl) (Nat.le_of_ble_eq_true rfl) (fun _ => rfl) dX12_readClause_28 (fun u3 hm => ?_)
    refine j_sub (L' := []) [] rfl ?_
    exact w_Mod_readClause_31 C O hm
theorem w_Mod_readClause {G : jG} {X : jX} (C : jC G X cX12_readClause 1 RX12 166 3775) {h : Hp} {out : Hp} (O : (O_Mod_readClause G X) out) (hm : s_Mod_readClause h = some out) : J G X 0 [(0, .ref (G.1 + 84))] [] h := by
  unfold s_Mod_readClause at hm
  refine j_aload_n C 0 dX12_readClause_0 rfl rfl ?_
  refine j_iconst C 1 dX12_readClause_1 (by decide) ?_
  refine j_cV C l_X12_168 [.int ((1 : Int32))] [] (fun u1 => some (.int u1.1)) (fun u1 => u1.2) (fun u1 => [.int u1.1]) n_84 hm (fun l u hu => c_Mod_takes0 hu) rfl (Nat.le_of_ble_eq_true rfl) rfl (Nat.le_of_ble_eq_true rfl) (Nat.le_of_ble_eq_true rfl) (fun _ => rfl) dX12_readClause_2 (fun u1 hm => ?_)
  refine j_ifne C 13 dX12_readClause_5 (by decide) hm (fun hm => ?_) (fun hm => ?_)
  · refine j_aload_n C 0 dX12_readClause_8 rfl rfl ?_
    refine j_iconst C 2 dX12_readClause_9 (by decide) ?_
    refine j_cV C l_X12_177 [.int ((2 : Int32))] [] (fun _ => none) (fun u2 => u2) (fun u2 => []) n_84 hm (fun l u hu => c_Mod_must hu) rfl (Nat.le_of_ble_eq_true rfl) rfl (Nat.le_of_ble_eq_true rfl) (Nat.le_of_ble_eq_true rfl) (fun _ => rfl) dX12_readClause_10 (fun u2 hm => ?_)
    refine j_sub (L' := [(0, .ref (G.1 + 84))]) [0] rfl ?_
    exact w_Mod_readClause_13 C O hm
  · refine j_sub (L' := [(0, .ref (G.1 + 84))]) [0] rfl ?_
    exact w_Mod_readClause_13 C O hm
theorem c_Mod_readClause {G : jG} {l : Launch} {h : Hp} {out : Hp} (hm : s_Mod_readClause h = some out) : mt G l yX12_readClause cX12_readClause 1 (none) 166 3775 [.ref (G.1 + 84)] h none out :=
  mt_of (by decide) (Nat.le_of_ble_eq_true rfl) _ rfl (fun X I C O => w_Mod_readClause C O hm)
