noncomputable def b_Reader_readPart_48 (rc0 : Int32 → Hp → Option (Int32 × Hp)) (rc1 : Int32 → Hp → Option (Int32 × Hp)) (rc2 : Int32 → Hp → Option (Int32 × Hp)) (s0 : Int32) (h : Hp) : Option (Int32 × Hp) :=
  bz s0 <| some (s0, h)
noncomputable def b_Reader_readPart_47 (rc0 : Int32 → Hp → Option (Int32 × Hp)) (rc1 : Int32 → Hp → Option (Int32 × Hp)) (rc2 : Int32 → Hp → Option (Int32 × Hp)) (h : Hp) : Option (Int32 × Hp) :=
  b_Reader_readPart_48 rc0 rc1 rc2 ((0 : Int32)) h
noncomputable def b_Reader_readPart_103 (rc0 : Int32 → Hp → Option (Int32 × Hp)) (rc1 : Int32 → Hp → Option (Int32 × Hp)) (rc2 : Int32 → Hp → Option (Int32 × Hp)) (h : Hp) : Option (Int32 × Hp) :=
  (s_Reader_fail h).bind fun u1 => bz u1.1 <| some (u1.1, u1.2)
noncomputable def b_Reader_readPart_82 (rc0 : Int32 → Hp → Option (Int32 × Hp)) (rc1 : Int32 → Hp → Option (Int32 × Hp)) (rc2 : Int32 → Hp → Option (Int32 × Hp)) (v2 : Int32) (s0 : Int32) (h : Hp) : Option (Int32 × Hp) :=
  if s0 < 0 then
    b_Reader_readPart_103 rc0 rc1 rc2 h
  else
    if ((1000 : Int32)) < s0 then
      b_Reader_readPart_103 rc0 rc1 rc2 h
    else
      if (hI h 47 5) < ((50 : Int32)) then
        (s_Reader_put v2 s0 (sI h 47 5 ((hI h 47 5) + ((1 : Int32))))).bind fun u1 => (s_Reader_advance u1).bind fun u2 => some ((1 : Int32), u2)
      else
        b_Reader_readPart_103 rc0 rc1 rc2 h
noncomputable def b_Reader_readPart_62 (rc0 : Int32 → Hp → Option (Int32 × Hp)) (rc1 : Int32 → Hp → Option (Int32 × Hp)) (rc2 : Int32 → Hp → Option (Int32 × Hp)) (s0 : Int32) (h : Hp) : Option (Int32 × Hp) :=
  if (hI h 47 6) = ((2 : Int32)) then
    (s_Reader_numberHere h).bind fun u2 => b_Reader_readPart_82 rc0 rc1 rc2 s0 u2 h
  else
    (s_Reader_wordHere h).bind fun u1 => b_Reader_readPart_82 rc0 rc1 rc2 s0 u1 h
noncomputable def b_Reader_readPart (rc0 : Int32 → Hp → Option (Int32 × Hp)) (rc1 : Int32 → Hp → Option (Int32 × Hp)) (rc2 : Int32 → Hp → Option (Int32 × Hp)) (v1 : Int32) (h : Hp) : Option (Int32 × Hp) :=
  (s_Reader_isOther ((91 : Int32)) h).bind fun u1 => if u1 = 0 then
    if (hI h 47 6) = ((2 : Int32)) then
      b_Reader_readPart_62 rc0 rc1 rc2 ((0 : Int32)) h
    else
      b_Reader_readPart_62 rc0 rc1 rc2 ((1 : Int32)) h
  else
    if v1 < ((8 : Int32)) then
      (s_Reader_advance h).bind fun u2 => (rc1 (v1 + ((1 : Int32))) u2).bind fun u3 => if u3.1 = 0 then
        b_Reader_readPart_47 rc0 rc1 rc2 u3.2
      else
        (s_Reader_takes ((93 : Int32)) u3.2).bind fun u4 => if u4.1 = 0 then
          b_Reader_readPart_47 rc0 rc1 rc2 u4.2
        else
          b_Reader_readPart_48 rc0 rc1 rc2 ((1 : Int32)) u4.2
    else
      (s_Reader_fail h).bind fun u5 => bz u5.1 <| some (u5.1, u5.2)
noncomputable def b_Reader_readSum_51 (rc0 : Int32 → Hp → Option (Int32 × Hp)) (rc1 : Int32 → Hp → Option (Int32 × Hp)) (rc2 : Int32 → Hp → Option (Int32 × Hp)) (v1 : Int32) (v2 : Int32) (s0 : Int32) (h : Hp) : Option ((Int32 × Int32 × Hp) ⊕ (Int32 × Hp)) :=
  (s_Reader_advance h).bind fun u1 => (rc2 v1 u1).bind fun u2 => if u2.1 = 0 then
    some (.inr ((0 : Int32), u2.2))
  else
    (s_Reader_put s0 ((0 : Int32)) u2.2).bind fun u3 => some (.inl (v1, (v2 + (1 : Int32)), u3))
noncomputable def b_Reader_readSum_37 (rc0 : Int32 → Hp → Option (Int32 × Hp)) (rc1 : Int32 → Hp → Option (Int32 × Hp)) (rc2 : Int32 → Hp → Option (Int32 × Hp)) (v1 : Int32) (v2 : Int32) (h : Hp) : Option ((Int32 × Int32 × Hp) ⊕ (Int32 × Hp)) :=
  (s_Reader_isOther ((43 : Int32)) h).bind fun u1 => if u1 = 0 then
    b_Reader_readSum_51 rc0 rc1 rc2 v1 v2 ((3 : Int32)) h
  else
    b_Reader_readSum_51 rc0 rc1 rc2 v1 v2 ((2 : Int32)) h
noncomputable def b_Reader_readSum_78 (rc0 : Int32 → Hp → Option (Int32 × Hp)) (rc1 : Int32 → Hp → Option (Int32 × Hp)) (rc2 : Int32 → Hp → Option (Int32 × Hp)) (h : Hp) : Option (Int32 × Hp) :=
  some ((1 : Int32), h)
noncomputable def b_Reader_readSum_12 (rc0 : Int32 → Hp → Option (Int32 × Hp)) (rc1 : Int32 → Hp → Option (Int32 × Hp)) (rc2 : Int32 → Hp → Option (Int32 × Hp)) (v1 : Int32) (v2 : Int32) (h : Hp) : Option ((Int32 × Int32 × Hp) ⊕ (Int32 × Hp)) :=
  if ((400 : Int32)) ≤ v2 then
    inr (b_Reader_readSum_78 rc0 rc1 rc2 h)
  else
    (s_Reader_isOther ((43 : Int32)) h).bind fun u1 => if u1 = 0 then
      (s_Reader_isOther ((45 : Int32)) h).bind fun u2 => if u2 = 0 then
        inr (b_Reader_readSum_78 rc0 rc1 rc2 h)
      else
        b_Reader_readSum_37 rc0 rc1 rc2 v1 v2 h
    else
      b_Reader_readSum_37 rc0 rc1 rc2 v1 v2 h
noncomputable def b_Reader_readSum (rc0 : Int32 → Hp → Option (Int32 × Hp)) (rc1 : Int32 → Hp → Option (Int32 × Hp)) (rc2 : Int32 → Hp → Option (Int32 × Hp)) (v1 : Int32) (h : Hp) : Option (Int32 × Hp) :=
  (rc2 v1 h).bind fun u1 => if u1.1 = 0 then
    some ((0 : Int32), u1.2)
  else
    lp (fun q => b_Reader_readSum_12 rc0 rc1 rc2 q.1 q.2.1 q.2.2) (v1, ((0 : Int32)), u1.2)
noncomputable def b_Reader_readTerm_51 (rc0 : Int32 → Hp → Option (Int32 × Hp)) (rc1 : Int32 → Hp → Option (Int32 × Hp)) (rc2 : Int32 → Hp → Option (Int32 × Hp)) (v1 : Int32) (v2 : Int32) (s0 : Int32) (h : Hp) : Option ((Int32 × Int32 × Hp) ⊕ (Int32 × Hp)) :=
  (s_Reader_advance h).bind fun u1 => (rc0 v1 u1).bind fun u2 => if u2.1 = 0 then
    some (.inr ((0 : Int32), u2.2))
  else
    (s_Reader_put s0 ((0 : Int32)) u2.2).bind fun u3 => some (.inl (v1, (v2 + (1 : Int32)), u3))
noncomputable def b_Reader_readTerm_37 (rc0 : Int32 → Hp → Option (Int32 × Hp)) (rc1 : Int32 → Hp → Option (Int32 × Hp)) (rc2 : Int32 → Hp → Option (Int32 × Hp)) (v1 : Int32) (v2 : Int32) (h : Hp) : Option ((Int32 × Int32 × Hp) ⊕ (Int32 × Hp)) :=
  (s_Reader_isOther ((42 : Int32)) h).bind fun u1 => if u1 = 0 then
    b_Reader_readTerm_51 rc0 rc1 rc2 v1 v2 ((5 : Int32)) h
  else
    b_Reader_readTerm_51 rc0 rc1 rc2 v1 v2 ((4 : Int32)) h
noncomputable def b_Reader_readTerm_78 (rc0 : Int32 → Hp → Option (Int32 × Hp)) (rc1 : Int32 → Hp → Option (Int32 × Hp)) (rc2 : Int32 → Hp → Option (Int32 × Hp)) (h : Hp) : Option (Int32 × Hp) :=
  some ((1 : Int32), h)
noncomputable def b_Reader_readTerm_12 (rc0 : Int32 → Hp → Option (Int32 × Hp)) (rc1 : Int32 → Hp → Option (Int32 × Hp)) (rc2 : Int32 → Hp → Option (Int32 × Hp)) (v1 : Int32) (v2 : Int32) (h : Hp) : Option ((Int32 × Int32 × Hp) ⊕ (Int32 × Hp)) :=
  if ((400 : Int32)) ≤ v2 then
    inr (b_Reader_readTerm_78 rc0 rc1 rc2 h)
  else
    (s_Reader_isOther ((42 : Int32)) h).bind fun u1 => if u1 = 0 then
      (s_Reader_isOther ((47 : Int32)) h).bind fun u2 => if u2 = 0 then
        inr (b_Reader_readTerm_78 rc0 rc1 rc2 h)
      else
        b_Reader_readTerm_37 rc0 rc1 rc2 v1 v2 h
    else
      b_Reader_readTerm_37 rc0 rc1 rc2 v1 v2 h
noncomputable def b_Reader_readTerm (rc0 : Int32 → Hp → Option (Int32 × Hp)) (rc1 : Int32 → Hp → Option (Int32 × Hp)) (rc2 : Int32 → Hp → Option (Int32 × Hp)) (v1 : Int32) (h : Hp) : Option (Int32 × Hp) :=
  (rc0 v1 h).bind fun u1 => if u1.1 = 0 then
    some ((0 : Int32), u1.2)
  else
    lp (fun q => b_Reader_readTerm_12 rc0 rc1 rc2 q.1 q.2.1 q.2.2) (v1, ((0 : Int32)), u1.2)
noncomputable def r_Reader_readPart : Nat → (Int32 → Hp → Option (Int32 × Hp)) × (Int32 → Hp → Option (Int32 × Hp)) × (Int32 → Hp → Option (Int32 × Hp))
  | 0 => (fun _ _ => none, fun _ _ => none, fun _ _ => none)
  | d + 1 => (b_Reader_readPart ((r_Reader_readPart d).1) ((r_Reader_readPart d).2.1) ((r_Reader_readPart d).2.2), b_Reader_readSum ((r_Reader_readPart d).1) ((r_Reader_readPart d).2.1) ((r_Reader_readPart d).2.2), b_Reader_readTerm ((r_Reader_readPart d).1) ((r_Reader_readPart d).2.1) ((r_Reader_readPart d).2.2))
noncomputable def s_Reader_readPart (v1 : Int32) (h : Hp) : Option (Int32 × Hp) := (r_Reader_readPart 80).1 v1 h
noncomputable def s_Reader_readSum (v1 : Int32) (h : Hp) : Option (Int32 × Hp) := (r_Reader_readPart 80).2.1 v1 h
noncomputable def s_Reader_readTerm (v1 : Int32) (h : Hp) : Option (Int32 × Hp) := (r_Reader_readPart 80).2.2 v1 h
def O_Reader_readPart (G : jG) (X : jX) (out : (Int32 × Hp)) : Prop := jO G X (some .boolean) (some (.int out.1)) out.2
def O_Reader_readSum (G : jG) (X : jX) (out : (Int32 × Hp)) : Prop := jO G X (some .boolean) (some (.int out.1)) out.2
def P_Reader_readSum_12 (G : jG) (X : jX) (q : Int32 × Int32 × Hp) : Prop := J G X 12 [(0, .ref (G.1 + 47)), (1, .int q.1), (2, .int q.2.1)] [] q.2.2
def O_Reader_readSum_12 (G : jG) (X : jX) (t : ((Int32 × Int32 × Hp) ⊕ (Int32 × Hp))) : Prop := Sum.elim (P_Reader_readSum_12 G X) (O_Reader_readSum G X) t
def O_Reader_readTerm (G : jG) (X : jX) (out : (Int32 × Hp)) : Prop := jO G X (some .boolean) (some (.int out.1)) out.2
def P_Reader_readTerm_12 (G : jG) (X : jX) (q : Int32 × Int32 × Hp) : Prop := J G X 12 [(0, .ref (G.1 + 47)), (1, .int q.1), (2, .int q.2.1)] [] q.2.2
def O_Reader_readTerm_12 (G : jG) (X : jX) (t : ((Int32 × Int32 × Hp) ⊕ (Int32 × Hp))) : Prop := Sum.elim (P_Reader_readTerm_12 G X) (O_Reader_readTerm G X) t
theorem w_Reader_readPart_48 {G : jG} {X : jX} {d : Nat} {rc0 : Int32 → Hp → Option (Int32 × Hp)} {rc1 : Int32 → Hp → Option (Int32 × Hp)} {rc2 : Int32 → Hp → Option (Int32 × Hp)} (C : jC G X cX3_readPart 4 RX3 (8 + (d + 1)) (282 + 23 * (d + 1))) (IH0 : ∀ (l : Launch) (v1 : Int32) (h : Hp) (out : (Int32 × Hp)), rc0 v1 h = some out → mt G l yX3_readPart cX3_readPart 4 (some .boolean) (8 + d) (282 + 23 * d) [.ref (G.1 + 47), .int v1] h (some (.int out.1)) out.2) (IH1 : ∀ (l : Launch) (v1 : Int32) (h : Hp) (out : (Int32 × Hp)), rc1 v1 h = some out → mt G l yX3_readSum cX3_readSum 4 (some .boolean) (8 + d) (282 + 23 * d) [.ref (G.1 + 47), .int v1] h (some (.int out.1)) out.2) (IH2 : ∀ (l : Launch) (v1 : Int32) (h : Hp) (out : (Int32 × Hp)), rc2 v1 h = some out → mt G l yX3_readTerm cX3_readTerm 4 (some .boolean) (8 + d) (282 + 23 * d) [.ref (G.1 + 47), .int v1] h (some (.int out.1)) out.2) {s0 : Int32} {h : Hp} {out : (Int32 × Hp)} (O : (O_Reader_readPart G X) out) (hm : b_Reader_readPart_48 rc0 rc1 rc2 s0 h = some out) : J G X 48 [] [.int s0] h := by
  unfold b_Reader_readPart_48 at hm
  obtain ⟨cz, hm⟩ := bz_inv hm
  obtain rfl := Option.some.inj hm
  exact j_zret C O cz dX3_readPart_48
theorem w_Reader_readPart_47 {G : jG} {X : jX} {d : Nat} {rc0 : Int32 → Hp → Option (Int32 × Hp)} {rc1 : Int32 → Hp → Option (Int32 × Hp)} {rc2 : Int32 → Hp → Option (Int32 × Hp)} (C : jC G X cX3_readPart 4 RX3 (8 + (d + 1)) (282 + 23 * (d + 1))) (IH0 : ∀ (l : Launch) (v1 : Int32) (h : Hp) (out : (Int32 × Hp)), rc0 v1 h = some out → mt G l yX3_readPart cX3_readPart 4 (some .boolean) (8 + d) (282 + 23 * d) [.ref (G.1 + 47), .int v1] h (some (.int out.1)) out.2) (IH1 : ∀ (l : Launch) (v1 : Int32) (h : Hp) (out : (Int32 × Hp)), rc1 v1 h = some out → mt G l yX3_readSum cX3_readSum 4 (some .boolean) (8 + d) (282 + 23 * d) [.ref (G.1 + 47), .int v1] h (some (.int out.1)) out.2) (IH2 : ∀ (l : Launch) (v1 : Int32) (h : Hp) (out : (Int32 × Hp)), rc2 v1 h = some out → mt G l yX3_readTerm cX3_readTerm 4 (some .boolean) (8 + d) (282 + 23 * d) [.ref (G.1 + 47), .int v1] h (some (.int out.1)) out.2) {h : Hp} {out : (Int32 × Hp)} (O : (O_Reader_readPart G X) out) (hm : b_Reader_readPart_47 rc0 rc1 rc2 h = some out) : J G X 47 [] [] h := by
  unfold b_Reader_readPart_47 at hm
  refine j_iconst C 0 dX3_readPart_47 (by decide) ?_
  refine j_sub (L' := []) [] rfl ?_
  exact w_Reader_readPart_48 C IH0 IH1 IH2 O hm
theorem w_Reader_readPart_103 {G : jG} {X : jX} {d : Nat} {rc0 : Int32 → Hp → Option (Int32 × Hp)} {rc1 : Int32 → Hp → Option (Int32 × Hp)} {rc2 : Int32 → Hp → Option (Int32 × Hp)} (C : jC G X cX3_readPart 4 RX3 (8 + (d + 1)) (282 + 23 * (d + 1))) (IH0 : ∀ (l : Launch) (v1 : Int32) (h : Hp) (out : (Int32 × Hp)), rc0 v1 h = some out → mt G l yX3_readPart cX3_readPart 4 (some .boolean) (8 + d) (282 + 23 * d) [.ref (G.1 + 47), .int v1] h (some (.int out.1)) out.2) (IH1 : ∀ (l : Launch) (v1 : Int32) (h : Hp) (out : (Int32 × Hp)), rc1 v1 h = some out → mt G l yX3_readSum cX3_readSum 4 (some .boolean) (8 + d) (282 + 23 * d) [.ref (G.1 + 47), .int v1] h (some (.int out.1)) out.2) (IH2 : ∀ (l : Launch) (v1 : Int32) (h : Hp) (out : (Int32 × Hp)), rc2 v1 h = some out → mt G l yX3_readTerm cX3_readTerm 4 (some .boolean) (8 + d) (282 + 23 * d) [.ref (G.1 + 47), .int v1] h (some (.int out.1)) out.2) {h : Hp} {out : (Int32 × Hp)} (O : (O_Reader_readPart G X) out) (hm : b_Reader_readPart_103 rc0 rc1 rc2 h = some out) : J G X 103 [(0, .ref (G.1 + 47))] [] h := by
  unfold b_Reader_readPart_103 at hm
  refine j_aload_n C 0 dX3_readPart_103 rfl rfl ?_
  refine j_cV C l_X3_66 [] [] (fun u1 => some (.int u1.1)) (fun u1 => u1.2) (fun u1 => [.int u1.1]) n_47 hm (fun l u hu => c_Reader_fail hu) rfl (Nat.le_of_ble_eq_true rfl) rfl (by omega) (by omega) (fun _ => rfl) dX3_readPart_104 (fun u1 hm => ?_)
  obtain ⟨cz, hm⟩ := bz_inv hm
  obtain rfl := Option.some.inj hm
  exact j_zret C O cz dX3_readPart_107
theorem w_Reader_readPart_82 {G : jG} {X : jX} {d : Nat} {rc0 : Int32 → Hp → Option (Int32 × Hp)} {rc1 : Int32 → Hp → Option (Int32 × Hp)} {rc2 : Int32 → Hp → Option (Int32 × Hp)} (C : jC G X cX3_readPart 4 RX3 (8 + (d + 1)) (282 + 23 * (d + 1))) (IH0 : ∀ (l : Launch) (v1 : Int32) (h : Hp) (out : (Int32 × Hp)), rc0 v1 h = some out → mt G l yX3_readPart cX3_readPart 4 (some .boolean) (8 + d) (282 + 23 * d) [.ref (G.1 + 47), .int v1] h (some (.int out.1)) out.2) (IH1 : ∀ (l : Launch) (v1 : Int32) (h : Hp) (out : (Int32 × Hp)), rc1 v1 h = some out → mt G l yX3_readSum cX3_readSum 4 (some .boolean) (8 + d) (282 + 23 * d) [.ref (G.1 + 47), .int v1] h (some (.int out.1)) out.2) (IH2 : ∀ (l : Launch) (v1 : Int32) (h : Hp) (out : (Int32 × Hp)), rc2 v1 h = some out → mt G l yX3_readTerm cX3_readTerm 4 (some .boolean) (8 + d) (282 + 23 * d) [.ref (G.1 + 47), .int v1] h (some (.int out.1)) out.2) {v2 : Int32} {s0 : Int32} {h : Hp} {out : (Int32 × Hp)} (O : (O_Reader_readPart G X) out) (hm : b_Reader_readPart_82 rc0 rc1 rc2 v2 s0 h = some out) : J G X 82 [(0, .ref (G.1 + 47)), (2, .int v2)] [.int s0] h := by
  unfold b_Reader_readPart_82 at hm
  refine j_istore_n C [(3, .int s0), (0, .ref (G.1 + 47)), (2, .int v2)] dX3_readPart_82 rfl (by decide) rfl ?_
  refine j_iload_n C 0 dX3_readPart_83 rfl rfl ?_
  refine j_iflt C 103 dX3_readPart_84 (by decide) hm (fun hm => ?_) (fun hm => ?_)
  · refine j_sub (L' := [(0, .ref (G.1 + 47))]) [1] rfl ?_
    exact w_Reader_readPart_103 C IH0 IH1 IH2 O hm
  · refine j_iload_n C 0 dX3_readPart_87 rfl rfl ?_
    refine j_sipush C 1000 dX3_readPart_88 (by decide) ?_
    refine j_if_icmpgt C 103 dX3_readPart_91 (by decide) hm (fun hm => ?_) (fun hm => ?_)
    · refine j_sub (L' := [(0, .ref (G.1 + 47))]) [1] rfl ?_
      exact w_Reader_readPart_103 C IH0 IH1 IH2 O hm
    · refine j_aload_n C 1 dX3_readPart_94 rfl rfl ?_
      refine j_gI C f_X3_27 n_47 dX3_readPart_95 ?_
      refine j_bipush C 50 dX3_readPart_98 (by decide) ?_
      refine j_if_icmplt C 108 dX3_readPart_100 (by decide) hm (fun hm => ?_) (fun hm => ?_)
      · refine j_aload_n C 1 dX3_readPart_108 rfl rfl ?_
        refine j_dup C dX3_readPart_109 rfl ?_
        refine j_gI C f_X3_27 n_47 dX3_readPart_110 ?_
        refine j_iconst C 1 dX3_readPart_113 (by decide) ?_
        refine j_iadd C dX3_readPart_114 ?_
        refine j_pI C f_X3_27 n_47 dX3_readPart_115 ?_
        refine j_aload_n C 1 dX3_readPart_118 rfl rfl ?_
        refine j_iload_n C 2 dX3_readPart_119 rfl rfl ?_
        refine j_iload_n C 0 dX3_readPart_120 rfl rfl ?_
        refine j_cV C l_X3_93 [.int v2, .int s0] [] (fun _ => none) (fun u1 => u1) (fun u1 => []) n_47 hm (fun l u hu => c_Reader_put hu) rfl (Nat.le_of_ble_eq_true rfl) rfl (by omega) (by omega) (fun _ => rfl) dX3_readPart_121 (fun u1 hm => ?_)
        refine j_aload_n C 1 dX3_readPart_124 rfl rfl ?_
        refine j_cV C l_X3_46 [] [] (fun _ => none) (fun u2 => u2) (fun u2 => []) n_47 hm (fun l u hu => c_Reader_advance hu) rfl (Nat.le_of_ble_eq_true rfl) rfl (by omega) (by omega) (fun _ => rfl) dX3_readPart_125 (fun u2 hm => ?_)
        refine j_iconst C 1 dX3_readPart_128 (by decide) ?_
        obtain rfl := Option.some.inj hm
        exact j_zret C O (by decide) dX3_readPart_129
      · refine j_sub (L' := [(0, .ref (G.1 + 47))]) [1] rfl ?_
        exact w_Reader_readPart_103 C IH0 IH1 IH2 O hm
theorem w_Reader_readPart_62 {G : jG} {X : jX} {d : Nat} {rc0 : Int32 → Hp → Option (Int32 × Hp)} {rc1 : Int32 → Hp → Option (Int32 × Hp)} {rc2 : Int32 → Hp → Option (Int32 × Hp)} (C : jC G X cX3_readPart 4 RX3 (8 + (d + 1)) (282 + 23 * (d + 1))) (IH0 : ∀ (l : Launch) (v1 : Int32) (h : Hp) (out : (Int32 × Hp)), rc0 v1 h = some out → mt G l yX3_readPart cX3_readPart 4 (some .boolean) (8 + d) (282 + 23 * d) [.ref (G.1 + 47), .int v1] h (some (.int out.1)) out.2) (IH1 : ∀ (l : Launch) (v1 : Int32) (h : Hp) (out : (Int32 × Hp)), rc1 v1 h = some out → mt G l yX3_readSum cX3_readSum 4 (some .boolean) (8 + d) (282 + 23 * d) [.ref (G.1 + 47), .int v1] h (some (.int out.1)) out.2) (IH2 : ∀ (l : Launch) (v1 : Int32) (h : Hp) (out : (Int32 × Hp)), rc2 v1 h = some out → mt G l yX3_readTerm cX3_readTerm 4 (some .boolean) (8 + d) (282 + 23 * d) [.ref (G.1 + 47), .int v1] h (some (.int out.1)) out.2) {s0 : Int32} {h : Hp} {out : (Int32 × Hp)} (O : (O_Reader_readPart G X) out) (hm : b_Reader_readPart_62 rc0 rc1 rc2 s0 h = some out) : J G X 62 [(0, .ref (G.1 + 47))] [.int s0] h := by
  unfold b_Reader_readPart_62 at hm
  refine j_istore_n C [(2, .int s0), (0, .ref (G.1 + 47))] dX3_readPart_62 rfl (by decide) rfl ?_
  refine j_aload_n C 1 dX3_readPart_63 rfl rfl ?_
  refine j_gI C f_X3_30 n_47 dX3_readPart_64 ?_
  refine j_iconst C 2 dX3_readPart_67 (by decide) ?_
  refine j_if_icmpne C 78 dX3_readPart_68 (by decide) hm (fun hm => ?_) (fun hm => ?_)
  · refine j_aload_n C 1 dX3_readPart_71 rfl rfl ?_
    refine j_cV C l_X3_123 [] [] (fun u2 => some (.int u2)) (fun _ => h) (fun u2 => [.int u2]) n_47 hm (fun l u hu => c_Reader_numberHere hu) rfl (Nat.le_of_ble_eq_true rfl) rfl (by omega) (by omega) (fun _ => rfl) dX3_readPart_72 (fun u2 hm => ?_)
    refine j_goto C 82 dX3_readPart_75 (by decide) ?_
    refine j_sub (L' := [(0, .ref (G.1 + 47)), (2, .int s0)]) [1, 0] rfl ?_
    exact w_Reader_readPart_82 C IH0 IH1 IH2 O hm
  · refine j_aload_n C 1 dX3_readPart_78 rfl rfl ?_
    refine j_cV C l_X3_126 [] [] (fun u1 => some (.int u1)) (fun _ => h) (fun u1 => [.int u1]) n_47 hm (fun l u hu => c_Reader_wordHere hu) rfl (Nat.le_of_ble_eq_true rfl) rfl (by omega) (by omega) (fun _ => rfl) dX3_readPart_79 (fun u1 hm => ?_)
    refine j_sub (L' := [(0, .ref (G.1 + 47)), (2, .int s0)]) [1, 0] rfl ?_
    exact w_Reader_readPart_82 C IH0 IH1 IH2 O hm
theorem w_Reader_readPart {G : jG} {X : jX} {d : Nat} {rc0 : Int32 → Hp → Option (Int32 × Hp)} {rc1 : Int32 → Hp → Option (Int32 × Hp)} {rc2 : Int32 → Hp → Option (Int32 × Hp)} (C : jC G X cX3_readPart 4 RX3 (8 + (d + 1)) (282 + 23 * (d + 1))) (IH0 : ∀ (l : Launch) (v1 : Int32) (h : Hp) (out : (Int32 × Hp)), rc0 v1 h = some out → mt G l yX3_readPart cX3_readPart 4 (some .boolean) (8 + d) (282 + 23 * d) [.ref (G.1 + 47), .int v1] h (some (.int out.1)) out.2) (IH1 : ∀ (l : Launch) (v1 : Int32) (h : Hp) (out : (Int32 × Hp)), rc1 v1 h = some out → mt G l yX3_readSum cX3_readSum 4 (some .boolean) (8 + d) (282 + 23 * d) [.ref (G.1 + 47), .int v1] h (some (.int out.1)) out.2) (IH2 : ∀ (l : Launch) (v1 : Int32) (h : Hp) (out : (Int32 × Hp)), rc2 v1 h = some out → mt G l yX3_readTerm cX3_readTerm 4 (some .boolean) (8 + d) (282 + 23 * d) [.ref (G.1 + 47), .int v1] h (some (.int out.1)) out.2) {v1 : Int32} {h : Hp} {out : (Int32 × Hp)} (O : (O_Reader_readPart G X) out) (hm : b_Reader_readPart rc0 rc1 rc2 v1 h = some out) : J G X 0 [(0, .ref (G.1 + 47)), (1, .int v1)] [] h := by
  unfold b_Reader_readPart at hm
  refine j_aload_n C 0 dX3_readPart_0 rfl rfl ?_
  refine j_bipush C 91 dX3_readPart_1 (by decide) ?_
  refine j_cV C l_X3_62 [.int ((91 : Int32))] [] (fun u1 => some (.int u1)) (fun _ => h) (fun u1 => [.int u1]) n_47 hm (fun l u hu => c_Reader_isOther hu) rfl (Nat.le_of_ble_eq_true rfl) rfl (by omega) (by omega) (fun _ => rfl) dX3_readPart_3 (fun u1 hm => ?_)
  refine j_ifeq C 49 dX3_readPart_6 (by decide) hm (fun hm => ?_) (fun hm => ?_)
  · refine j_aload_n C 0 dX3_readPart_49 rfl rfl ?_
    refine j_gI C f_X3_30 n_47 dX3_readPart_50 ?_
    refine j_iconst C 2 dX3_readPart_53 (by decide) ?_
    refine j_if_icmpne C 61 dX3_readPart_54 (by decide) hm (fun hm => ?_) (fun hm => ?_)
    · refine j_iconst C 0 dX3_readPart_57 (by decide) ?_
      refine j_goto C 62 dX3_readPart_58 (by decide) ?_
      refine j_sub (L' := [(0, .ref (G.1 + 47))]) [0] rfl ?_
      exact w_Reader_readPart_62 C IH0 IH1 IH2 O hm
    · refine j_iconst C 1 dX3_readPart_61 (by decide) ?_
      refine j_sub (L' := [(0, .ref (G.1 + 47))]) [0] rfl ?_
      exact w_Reader_readPart_62 C IH0 IH1 IH2 O hm
  · refine j_iload_n C 1 dX3_readPart_9 rfl rfl ?_
    refine j_bipush C 8 dX3_readPart_10 (by decide) ?_
    refine j_if_icmplt C 20 dX3_readPart_12 (by decide) hm (fun hm => ?_) (fun hm => ?_)
    · refine j_aload_n C 0 dX3_readPart_20 rfl rfl ?_
      refine j_cV C l_X3_46 [] [] (fun _ => none) (fun u2 => u2) (fun u2 => []) n_47 hm (fun l u hu => c_Reader_advance hu) rfl (Nat.le_of_ble_eq_true rfl) rfl (by omega) (by omega) (fun _ => rfl) dX3_readPart_21 (fun u2 hm => ?_)
      refine j_aload_n C 0 dX3_readPart_24 rfl rfl ?_
      refine j_iload_n C 1 dX3_readPart_25 rfl rfl ?_
      refine j_iconst C 1 dX3_readPart_26 (by decide) ?_
      refine j_iadd C dX3_readPart_27 ?_
      refine j_cV C l_X3_77 [.int (v1 + ((1 : Int32)))] [] (fun u3 => some (.int u3.1)) (fun u3 => u3.2) (fun u3 => [.int u3.1]) n_47 hm (fun l u hu => IH1 _ _ _ _ hu) rfl (Nat.le_of_ble_eq_true rfl) rfl (by omega) (by omega) (fun _ => rfl) dX3_readPart_28 (fun u3 hm => ?_)
      refine j_ifeq C 47 dX3_readPart_31 (by decide) hm (fun hm => ?_) (fun hm => ?_)
      · refine j_sub (L' := []) [] rfl ?_
        exact w_Reader_readPart_47 C IH0 IH1 IH2 O hm
      · refine j_aload_n C 0 dX3_readPart_34 rfl rfl ?_
        refine j_bipush C 93 dX3_readPart_35 (by decide) ?_
        refine j_cV C l_X3_114 [.int ((93 : Int32))] [] (fun u4 => some (.int u4.1)) (fun u4 => u4.2) (fun u4 => [.int u4.1]) n_47 hm (fun l u hu => c_Reader_takes hu) rfl (Nat.le_of_ble_eq_true rfl) rfl (by omega) (by omega) (fun _ => rfl) dX3_readPart_37 (fun u4 hm => ?_)
        refine j_ifeq C 47 dX3_readPart_40 (by decide) hm (fun hm => ?_) (fun hm => ?_)
        · refine j_sub (L' := []) [] rfl ?_
          exact w_Reader_readPart_47 C IH0 IH1 IH2 O hm
        · refine j_iconst C 1 dX3_readPart_43 (by decide) ?_
          refine j_goto C 48 dX3_readPart_44 (by decide) ?_
          refine j_sub (L' := []) [] rfl ?_
          exact w_Reader_readPart_48 C IH0 IH1 IH2 O hm
    · refine j_aload_n C 0 dX3_readPart_15 rfl rfl ?_
      refine j_cV C l_X3_66 [] [] (fun u5 => some (.int u5.1)) (fun u5 => u5.2) (fun u5 => [.int u5.1]) n_47 hm (fun l u hu => c_Reader_fail hu) rfl (Nat.le_of_ble_eq_true rfl) rfl (by omega) (by omega) (fun _ => rfl) dX3_readPart_16 (fun u5 hm => ?_)
      obtain ⟨cz, hm⟩ := bz_inv hm
      obtain rfl := Option.some.inj hm
      exact j_zret C O cz dX3_readPart_19
theorem w_Reader_readSum_51 {G : jG} {X : jX} {d : Nat} {rc0 : Int32 → Hp → Option (Int32 × Hp)} {rc1 : Int32 → Hp → Option (Int32 × Hp)} {rc2 : Int32 → Hp → Option (Int32 × Hp)} (C : jC G X cX3_readSum 4 RX3 (8 + (d + 1)) (282 + 23 * (d + 1))) (IH0 : ∀ (l : Launch) (v1 : Int32) (h : Hp) (out : (Int32 × Hp)), rc0 v1 h = some out → mt G l yX3_readPart cX3_readPart 4 (some .boolean) (8 + d) (282 + 23 * d) [.ref (G.1 + 47), .int v1] h (some (.int out.1)) out.2) (IH1 : ∀ (l : Launch) (v1 : Int32) (h : Hp) (out : (Int32 × Hp)), rc1 v1 h = some out → mt G l yX3_readSum cX3_readSum 4 (some .boolean) (8 + d) (282 + 23 * d) [.ref (G.1 + 47), .int v1] h (some (.int out.1)) out.2) (IH2 : ∀ (l : Launch) (v1 : Int32) (h : Hp) (out : (Int32 × Hp)), rc2 v1 h = some out → mt G l yX3_readTerm cX3_readTerm 4 (some .boolean) (8 + d) (282 + 23 * d) [.ref (G.1 + 47), .int v1] h (some (.int out.1)) out.2) {v1 : Int32} {v2 : Int32} {s0 : Int32} {h : Hp} {out : ((Int32 × Int32 × Hp) ⊕ (Int32 × Hp))} (O : (O_Reader_readSum_12 G X) out) (hm : b_Reader_readSum_51 rc0 rc1 rc2 v1 v2 s0 h = some out) : J G X 51 [(0, .ref (G.1 + 47)), (1, .int v1), (2, .int v2)] [.int s0] h := by
  unfold b_Reader_readSum_51 at hm
  refine j_istore_n C [(3, .int s0), (0, .ref (G.1 + 47)), (1, .int v1), (2, .int v2)] dX3_readSum_51 rfl (by decide) rfl ?_
  refine j_aload_n C 1 dX3_readSum_52 rfl rfl ?_
  refine j_cV C l_X3_46 [] [] (fun _ => none) (fun u1 => u1) (fun u1 => []) n_47 hm (fun l u hu => c_Reader_advance hu) rfl (Nat.le_of_ble_eq_true rfl) rfl (by omega) (by omega) (fun _ => rfl) dX3_readSum_53 (fun u1 hm => ?_)
  refine j_aload_n C 1 dX3_readSum_56 rfl rfl ?_
  refine j_iload_n C 2 dX3_readSum_57 rfl rfl ?_
  refine j_cV C l_X3_117 [.int v1] [] (fun u2 => some (.int u2.1)) (fun u2 => u2.2) (fun u2 => [.int u2.1]) n_47 hm (fun l u hu => IH2 _ _ _ _ hu) rfl (Nat.le_of_ble_eq_true rfl) rfl (by omega) (by omega) (fun _ => rfl) dX3_readSum_58 (fun u2 hm => ?_)
  refine j_ifne C 66 dX3_readSum_61 (by decide) hm (fun hm => ?_) (fun hm => ?_)
  · refine j_iconst C 0 dX3_readSum_64 (by decide) ?_
    obtain rfl := Option.some.inj hm
    exact j_zret C O (by decide) dX3_readSum_65
  · refine j_aload_n C 1 dX3_readSum_66 rfl rfl ?_
    refine j_iload_n C 0 dX3_readSum_67 rfl rfl ?_
    refine j_iconst C 0 dX3_readSum_68 (by decide) ?_
    refine j_cV C l_X3_93 [.int s0, .int ((0 : Int32))] [] (fun _ => none) (fun u3 => u3) (fun u3 => []) n_47 hm (fun l u hu => c_Reader_put hu) rfl (Nat.le_of_ble_eq_true rfl) rfl (by omega) (by omega) (fun _ => rfl) dX3_readSum_69 (fun u3 hm => ?_)
    refine j_iinc C 3 [(2, .int (v2 + (1 : Int32))), (3, .int s0), (0, .ref (G.1 + 47)), (1, .int v1)] dX3_readSum_72 rfl (add_lit (by decide)) (by decide) rfl ?_
    refine j_goto C 12 dX3_readSum_75 (by decide) ?_
    obtain rfl := Option.some.inj hm
    refine j_sub (L' := [(0, .ref (G.1 + 47)), (1, .int v1), (2, .int (v2 + (1 : Int32)))]) [2, 3, 0] rfl ?_
    exact O
theorem w_Reader_readSum_37 {G : jG} {X : jX} {d : Nat} {rc0 : Int32 → Hp → Option (Int32 × Hp)} {rc1 : Int32 → Hp → Option (Int32 × Hp)} {rc2 : Int32 → Hp → Option (Int32 × Hp)} (C : jC G X cX3_readSum 4 RX3 (8 + (d + 1)) (282 + 23 * (d + 1))) (IH0 : ∀ (l : Launch) (v1 : Int32) (h : Hp) (out : (Int32 × Hp)), rc0 v1 h = some out → mt G l yX3_readPart cX3_readPart 4 (some .boolean) (8 + d) (282 + 23 * d) [.ref (G.1 + 47), .int v1] h (some (.int out.1)) out.2) (IH1 : ∀ (l : Launch) (v1 : Int32) (h : Hp) (out : (Int32 × Hp)), rc1 v1 h = some out → mt G l yX3_readSum cX3_readSum 4 (some .boolean) (8 + d) (282 + 23 * d) [.ref (G.1 + 47), .int v1] h (some (.int out.1)) out.2) (IH2 : ∀ (l : Launch) (v1 : Int32) (h : Hp) (out : (Int32 × Hp)), rc2 v1 h = some out → mt G l yX3_readTerm cX3_readTerm 4 (some .boolean) (8 + d) (282 + 23 * d) [.ref (G.1 + 47), .int v1] h (some (.int out.1)) out.2) {v1 : Int32} {v2 : Int32} {h : Hp} {out : ((Int32 × Int32 × Hp) ⊕ (Int32 × Hp))} (O : (O_Reader_readSum_12 G X) out) (hm : b_Reader_readSum_37 rc0 rc1 rc2 v1 v2 h = some out) : J G X 37 [(0, .ref (G.1 + 47)), (1, .int v1), (2, .int v2)] [] h := by
  unfold b_Reader_readSum_37 at hm
  refine j_aload_n C 0 dX3_readSum_37 rfl rfl ?_
  refine j_bipush C 43 dX3_readSum_38 (by decide) ?_
  refine j_cV C l_X3_62 [.int ((43 : Int32))] [] (fun u1 => some (.int u1)) (fun _ => h) (fun u1 => [.int u1]) n_47 hm (fun l u hu => c_Reader_isOther hu) rfl (Nat.le_of_ble_eq_true rfl) rfl (by omega) (by omega) (fun _ => rfl) dX3_readSum_40 (fun u1 hm => ?_)
  refine j_ifeq C 50 dX3_readSum_43 (by decide) hm (fun hm => ?_) (fun hm => ?_)
  · refine j_iconst C 3 dX3_readSum_50 (by decide) ?_
    refine j_sub (L' := [(0, .ref (G.1 + 47)), (1, .int v1), (2, .int v2)]) [0, 1, 2] rfl ?_
    exact w_Reader_readSum_51 C IH0 IH1 IH2 O hm
  · refine j_iconst C 2 dX3_readSum_46 (by decide) ?_
    refine j_goto C 51 dX3_readSum_47 (by decide) ?_
    refine j_sub (L' := [(0, .ref (G.1 + 47)), (1, .int v1), (2, .int v2)]) [0, 1, 2] rfl ?_
    exact w_Reader_readSum_51 C IH0 IH1 IH2 O hm
theorem w_Reader_readSum_78 {G : jG} {X : jX} {d : Nat} {rc0 : Int32 → Hp → Option (Int32 × Hp)} {rc1 : Int32 → Hp → Option (Int32 × Hp)} {rc2 : Int32 → Hp → Option (Int32 × Hp)} (C : jC G X cX3_readSum 4 RX3 (8 + (d + 1)) (282 + 23 * (d + 1))) (IH0 : ∀ (l : Launch) (v1 : Int32) (h : Hp) (out : (Int32 × Hp)), rc0 v1 h = some out → mt G l yX3_readPart cX3_readPart 4 (some .boolean) (8 + d) (282 + 23 * d) [.ref (G.1 + 47), .int v1] h (some (.int out.1)) out.2) (IH1 : ∀ (l : Launch) (v1 : Int32) (h : Hp) (out : (Int32 × Hp)), rc1 v1 h = some out → mt G l yX3_readSum cX3_readSum 4 (some .boolean) (8 + d) (282 + 23 * d) [.ref (G.1 + 47), .int v1] h (some (.int out.1)) out.2) (IH2 : ∀ (l : Launch) (v1 : Int32) (h : Hp) (out : (Int32 × Hp)), rc2 v1 h = some out → mt G l yX3_readTerm cX3_readTerm 4 (some .boolean) (8 + d) (282 + 23 * d) [.ref (G.1 + 47), .int v1] h (some (.int out.1)) out.2) {h : Hp} {out : (Int32 × Hp)} (O : (O_Reader_readSum G X) out) (hm : b_Reader_readSum_78 rc0 rc1 rc2 h = some out) : J G X 78 [] [] h := by
  unfold b_Reader_readSum_78 at hm
  refine j_iconst C 1 dX3_readSum_78 (by decide) ?_
  obtain rfl := Option.some.inj hm
  exact j_zret C O (by decide) dX3_readSum_79
theorem w_Reader_readSum_12 {G : jG} {X : jX} {d : Nat} {rc0 : Int32 → Hp → Option (Int32 × Hp)} {rc1 : Int32 → Hp → Option (Int32 × Hp)} {rc2 : Int32 → Hp → Option (Int32 × Hp)} (C : jC G X cX3_readSum 4 RX3 (8 + (d + 1)) (282 + 23 * (d + 1))) (IH0 : ∀ (l : Launch) (v1 : Int32) (h : Hp) (out : (Int32 × Hp)), rc0 v1 h = some out → mt G l yX3_readPart cX3_readPart 4 (some .boolean) (8 + d) (282 + 23 * d) [.ref (G.1 + 47), .int v1] h (some (.int out.1)) out.2) (IH1 : ∀ (l : Launch) (v1 : Int32) (h : Hp) (out : (Int32 × Hp)), rc1 v1 h = some out → mt G l yX3_readSum cX3_readSum 4 (some .boolean) (8 + d) (282 + 23 * d) [.ref (G.1 + 47), .int v1] h (some (.int out.1)) out.2) (IH2 : ∀ (l : Launch) (v1 : Int32) (h : Hp) (out : (Int32 × Hp)), rc2 v1 h = some out → mt G l yX3_readTerm cX3_readTerm 4 (some .boolean) (8 + d) (282 + 23 * d) [.ref (G.1 + 47), .int v1] h (some (.int out.1)) out.2) {v1 : Int32} {v2 : Int32} {h : Hp} {out : ((Int32 × Int32 × Hp) ⊕ (Int32 × Hp))} (O : (O_Reader_readSum_12 G X) out) (hm : b_Reader_readSum_12 rc0 rc1 rc2 v1 v2 h = some out) : J G X 12 [(0, .ref (G.1 + 47)), (1, .int v1), (2, .int v2)] [] h := by
  unfold b_Reader_readSum_12 at hm
  refine j_iload_n C 2 dX3_readSum_12 rfl rfl ?_
  refine j_sipush C 400 dX3_readSum_13 (by decide) ?_
  refine j_if_icmpge C 78 dX3_readSum_16 (by decide) hm (fun hm => ?_) (fun hm => ?_)
  · obtain ⟨o_0, hm_0, rfl⟩ := inr_inv hm
    refine j_sub (L' := []) [] rfl ?_
    exact w_Reader_readSum_78 C IH0 IH1 IH2 O hm_0
  · refine j_aload_n C 0 dX3_readSum_19 rfl rfl ?_
    refine j_bipush C 43 dX3_readSum_20 (by decide) ?_
    refine j_cV C l_X3_62 [.int ((43 : Int32))] [] (fun u1 => some (.int u1)) (fun _ => h) (fun u1 => [.int u1]) n_47 hm (fun l u hu => c_Reader_isOther hu) rfl (Nat.le_of_ble_eq_true rfl) rfl (by omega) (by omega) (fun _ => rfl) dX3_readSum_22 (fun u1 hm => ?_)
    refine j_ifne C 37 dX3_readSum_25 (by decide) hm (fun hm => ?_) (fun hm => ?_)
    · refine j_aload_n C 0 dX3_readSum_28 rfl rfl ?_
      refine j_bipush C 45 dX3_readSum_29 (by decide) ?_
      refine j_cV C l_X3_62 [.int ((45 : Int32))] [] (fun u2 => some (.int u2)) (fun _ => h) (fun u2 => [.int u2]) n_47 hm (fun l u hu => c_Reader_isOther hu) rfl (Nat.le_of_ble_eq_true rfl) rfl (by omega) (by omega) (fun _ => rfl) dX3_readSum_31 (fun u2 hm => ?_)
      refine j_ifeq C 78 dX3_readSum_34 (by decide) hm (fun hm => ?_) (fun hm => ?_)
      · obtain ⟨o_0, hm_0, rfl⟩ := inr_inv hm
        refine j_sub (L' := []) [] rfl ?_
        exact w_Reader_readSum_78 C IH0 IH1 IH2 O hm_0
      · refine j_sub (L' := [(0, .ref (G.1 + 47)), (1, .int v1), (2, .int v2)]) [0, 1, 2] rfl ?_
        exact w_Reader_readSum_37 C IH0 IH1 IH2 O hm
    · refine j_sub (L' := [(0, .ref (G.1 + 47)), (1, .int v1), (2, .int v2)]) [0, 1, 2] rfl ?_
      exact w_Reader_readSum_37 C IH0 IH1 IH2 O hm
theorem k_Reader_readSum_12 {G : jG} {X : jX} {d : Nat} {rc0 : Int32 → Hp → Option (Int32 × Hp)} {rc1 : Int32 → Hp → Option (Int32 × Hp)} {rc2 : Int32 → Hp → Option (Int32 × Hp)} (C : jC G X cX3_readSum 4 RX3 (8 + (d + 1)) (282 + 23 * (d + 1))) (IH0 : ∀ (l : Launch) (v1 : Int32) (h : Hp) (out : (Int32 × Hp)), rc0 v1 h = some out → mt G l yX3_readPart cX3_readPart 4 (some .boolean) (8 + d) (282 + 23 * d) [.ref (G.1 + 47), .int v1] h (some (.int out.1)) out.2) (IH1 : ∀ (l : Launch) (v1 : Int32) (h : Hp) (out : (Int32 × Hp)), rc1 v1 h = some out → mt G l yX3_readSum cX3_readSum 4 (some .boolean) (8 + d) (282 + 23 * d) [.ref (G.1 + 47), .int v1] h (some (.int out.1)) out.2) (IH2 : ∀ (l : Launch) (v1 : Int32) (h : Hp) (out : (Int32 × Hp)), rc2 v1 h = some out → mt G l yX3_readTerm cX3_readTerm 4 (some .boolean) (8 + d) (282 + 23 * d) [.ref (G.1 + 47), .int v1] h (some (.int out.1)) out.2) {v1 : Int32} {v2 : Int32} {h : Hp} {out : (Int32 × Hp)} (O : (O_Reader_readSum G X) out) (hm : lp (fun q => b_Reader_readSum_12 rc0 rc1 rc2 q.1 q.2.1 q.2.2) (v1, v2, h) = some out) : J G X 12 [(0, .ref (G.1 + 47)), (1, .int v1), (2, .int v2)] [] h :=
  lp_ok (P := P_Reader_readSum_12 G X) (O := (O_Reader_readSum G X)) (fun q r hm O => w_Reader_readSum_12 C IH0 IH1 IH2 O hm) hm O
theorem w_Reader_readSum {G : jG} {X : jX} {d : Nat} {rc0 : Int32 → Hp → Option (Int32 × Hp)} {rc1 : Int32 → Hp → Option (Int32 × Hp)} {rc2 : Int32 → Hp → Option (Int32 × Hp)} (C : jC G X cX3_readSum 4 RX3 (8 + (d + 1)) (282 + 23 * (d + 1))) (IH0 : ∀ (l : Launch) (v1 : Int32) (h : Hp) (out : (Int32 × Hp)), rc0 v1 h = some out → mt G l yX3_readPart cX3_readPart 4 (some .boolean) (8 + d) (282 + 23 * d) [.ref (G.1 + 47), .int v1] h (some (.int out.1)) out.2) (IH1 : ∀ (l : Launch) (v1 : Int32) (h : Hp) (out : (Int32 × Hp)), rc1 v1 h = some out → mt G l yX3_readSum cX3_readSum 4 (some .boolean) (8 + d) (282 + 23 * d) [.ref (G.1 + 47), .int v1] h (some (.int out.1)) out.2) (IH2 : ∀ (l : Launch) (v1 : Int32) (h : Hp) (out : (Int32 × Hp)), rc2 v1 h = some out → mt G l yX3_readTerm cX3_readTerm 4 (some .boolean) (8 + d) (282 + 23 * d) [.ref (G.1 + 47), .int v1] h (some (.int out.1)) out.2) {v1 : Int32} {h : Hp} {out : (Int32 × Hp)} (O : (O_Reader_readSum G X) out) (hm : b_Reader_readSum rc0 rc1 rc2 v1 h = some out) : J G X 0 [(0, .ref (G.1 + 47)), (1, .int v1)] [] h := by
  unfold b_Reader_readSum at hm
  refine j_aload_n C 0 dX3_readSum_0 rfl rfl ?_
  refine j_iload_n C 1 dX3_readSum_1 rfl rfl ?_
  refine j_cV C l_X3_117 [.int v1] [] (fun u1 => some (.int u1.1)) (fun u1 => u1.2) (fun u1 => [.int u1.1]) n_47 hm (fun l u hu => IH2 _ _ _ _ hu) rfl (Nat.le_of_ble_eq_true rfl) rfl (by omega) (by omega) (fun _ => rfl) dX3_readSum_2 (fun u1 hm => ?_)
  refine j_ifne C 10 dX3_readSum_5 (by decide) hm (fun hm => ?_) (fun hm => ?_)
  · refine j_iconst C 0 dX3_readSum_8 (by decide) ?_
    obtain rfl := Option.some.inj hm
    exact j_zret C O (by decide) dX3_readSum_9
  · refine j_iconst C 0 dX3_readSum_10 (by decide) ?_
    refine j_istore_n C [(2, .int ((0 : Int32))), (0, .ref (G.1 + 47)), (1, .int v1)] dX3_readSum_11 rfl (by decide) rfl ?_
    refine j_sub (L' := [(0, .ref (G.1 + 47)), (1, .int v1), (2, .int ((0 : Int32)))]) [1, 2, 0] rfl ?_
    exact k_Reader_readSum_12 C IH0 IH1 IH2 O hm
theorem w_Reader_readTerm_51 {G : jG} {X : jX} {d : Nat} {rc0 : Int32 → Hp → Option (Int32 × Hp)} {rc1 : Int32 → Hp → Option (Int32 × Hp)} {rc2 : Int32 → Hp → Option (Int32 × Hp)} (C : jC G X cX3_readTerm 4 RX3 (8 + (d + 1)) (282 + 23 * (d + 1))) (IH0 : ∀ (l : Launch) (v1 : Int32) (h : Hp) (out : (Int32 × Hp)), rc0 v1 h = some out → mt G l yX3_readPart cX3_readPart 4 (some .boolean) (8 + d) (282 + 23 * d) [.ref (G.1 + 47), .int v1] h (some (.int out.1)) out.2) (IH1 : ∀ (l : Launch) (v1 : Int32) (h : Hp) (out : (Int32 × Hp)), rc1 v1 h = some out → mt G l yX3_readSum cX3_readSum 4 (some .boolean) (8 + d) (282 + 23 * d) [.ref (G.1 + 47), .int v1] h (some (.int out.1)) out.2) (IH2 : ∀ (l : Launch) (v1 : Int32) (h : Hp) (out : (Int32 × Hp)), rc2 v1 h = some out → mt G l yX3_readTerm cX3_readTerm 4 (some .boolean) (8 + d) (282 + 23 * d) [.ref (G.1 + 47), .int v1] h (some (.int out.1)) out.2) {v1 : Int32} {v2 : Int32} {s0 : Int32} {h : Hp} {out : ((Int32 × Int32 × Hp) ⊕ (Int32 × Hp))} (O : (O_Reader_readTerm_12 G X) out) (hm : b_Reader_readTerm_51 rc0 rc1 rc2 v1 v2 s0 h = some out) : J G X 51 [(0, .ref (G.1 + 47)), (1, .int v1), (2, .int v2)] [.int s0] h := by
  unfold b_Reader_readTerm_51 at hm
  refine j_istore_n C [(3, .int s0), (0, .ref (G.1 + 47)), (1, .int v1), (2, .int v2)] dX3_readTerm_51 rfl (by decide) rfl ?_
  refine j_aload_n C 1 dX3_readTerm_52 rfl rfl ?_
  refine j_cV C l_X3_46 [] [] (fun _ => none) (fun u1 => u1) (fun u1 => []) n_47 hm (fun l u hu => c_Reader_advance hu) rfl (Nat.le_of_ble_eq_true rfl) rfl (by omega) (by omega) (fun _ => rfl) dX3_readTerm_53 (fun u1 hm => ?_)
  refine j_aload_n C 1 dX3_readTerm_56 rfl rfl ?_
  refine j_iload_n C 2 dX3_readTerm_57 rfl rfl ?_
  refine j_cV C l_X3_120 [.int v1] [] (fun u2 => some (.int u2.1)) (fun u2 => u2.2) (fun u2 => [.int u2.1]) n_47 hm (fun l u hu => IH0 _ _ _ _ hu) rfl (Nat.le_of_ble_eq_true rfl) rfl (by omega) (by omega) (fun _ => rfl) dX3_readTerm_58 (fun u2 hm => ?_)
  refine j_ifne C 66 dX3_readTerm_61 (by decide) hm (fun hm => ?_) (fun hm => ?_)
  · refine j_iconst C 0 dX3_readTerm_64 (by decide) ?_
    obtain rfl := Option.some.inj hm
    exact j_zret C O (by decide) dX3_readTerm_65
  · refine j_aload_n C 1 dX3_readTerm_66 rfl rfl ?_
    refine j_iload_n C 0 dX3_readTerm_67 rfl rfl ?_
    refine j_iconst C 0 dX3_readTerm_68 (by decide) ?_
    refine j_cV C l_X3_93 [.int s0, .int ((0 : Int32))] [] (fun _ => none) (fun u3 => u3) (fun u3 => []) n_47 hm (fun l u hu => c_Reader_put hu) rfl (Nat.le_of_ble_eq_true rfl) rfl (by omega) (by omega) (fun _ => rfl) dX3_readTerm_69 (fun u3 hm => ?_)
    refine j_iinc C 3 [(2, .int (v2 + (1 : Int32))), (3, .int s0), (0, .ref (G.1 + 47)), (1, .int v1)] dX3_readTerm_72 rfl (add_lit (by decide)) (by decide) rfl ?_
    refine j_goto C 12 dX3_readTerm_75 (by decide) ?_
    obtain rfl := Option.some.inj hm
    refine j_sub (L' := [(0, .ref (G.1 + 47)), (1, .int v1), (2, .int (v2 + (1 : Int32)))]) [2, 3, 0] rfl ?_
    exact O
theorem w_Reader_readTerm_37 {G : jG} {X : jX} {d : Nat} {rc0 : Int32 → Hp → Option (Int32 × Hp)} {rc1 : Int32 → Hp → Option (Int32 × Hp)} {rc2 : Int32 → Hp → Option (Int32 × Hp)} (C : jC G X cX3_readTerm 4 RX3 (8 + (d + 1)) (282 + 23 * (d + 1))) (IH0 : ∀ (l : Launch) (v1 : Int32) (h : Hp) (out : (Int32 × Hp)), rc0 v1 h = some out → mt G l yX3_readPart cX3_readPart 4 (some .boolean) (8 + d) (282 + 23 * d) [.ref (G.1 + 47), .int v1] h (some (.int out.1)) out.2) (IH1 : ∀ (l : Launch) (v1 : Int32) (h : Hp) (out : (Int32 × Hp)), rc1 v1 h = some out → mt G l yX3_readSum cX3_readSum 4 (some .boolean) (8 + d) (282 + 23 * d) [.ref (G.1 + 47), .int v1] h (some (.int out.1)) out.2) (IH2 : ∀ (l : Launch) (v1 : Int32) (h : Hp) (out : (Int32 × Hp)), rc2 v1 h = some out → mt G l yX3_readTerm cX3_readTerm 4 (some .boolean) (8 + d) (282 + 23 * d) [.ref (G.1 + 47), .int v1] h (some (.int out.1)) out.2) {v1 : Int32} {v2 : Int32} {h : Hp} {out : ((Int32 × Int32 × Hp) ⊕ (Int32 × Hp))} (O : (O_Reader_readTerm_12 G X) out) (hm : b_Reader_readTerm_37 rc0 rc1 rc2 v1 v2 h = some out) : J G X 37 [(0, .ref (G.1 + 47)), (1, .int v1), (2, .int v2)] [] h := by
  unfold b_Reader_readTerm_37 at hm
  refine j_aload_n C 0 dX3_readTerm_37 rfl rfl ?_
  refine j_bipush C 42 dX3_readTerm_38 (by decide) ?_
  refine j_cV C l_X3_62 [.int ((42 : Int32))] [] (fun u1 => some (.int u1)) (fun _ => h) (fun u1 => [.int u1]) n_47 hm (fun l u hu => c_Reader_isOther hu) rfl (Nat.le_of_ble_eq_true rfl) rfl (by omega) (by omega) (fun _ => rfl) dX3_readTerm_40 (fun u1 hm => ?_)
  refine j_ifeq C 50 dX3_readTerm_43 (by decide) hm (fun hm => ?_) (fun hm => ?_)
  · refine j_iconst C 5 dX3_readTerm_50 (by decide) ?_
    refine j_sub (L' := [(0, .ref (G.1 + 47)), (1, .int v1), (2, .int v2)]) [0, 1, 2] rfl ?_
    exact w_Reader_readTerm_51 C IH0 IH1 IH2 O hm
  · refine j_iconst C 4 dX3_readTerm_46 (by decide) ?_
    refine j_goto C 51 dX3_readTerm_47 (by decide) ?_
    refine j_sub (L' := [(0, .ref (G.1 + 47)), (1, .int v1), (2, .int v2)]) [0, 1, 2] rfl ?_
    exact w_Reader_readTerm_51 C IH0 IH1 IH2 O hm
theorem w_Reader_readTerm_78 {G : jG} {X : jX} {d : Nat} {rc0 : Int32 → Hp → Option (Int32 × Hp)} {rc1 : Int32 → Hp → Option (Int32 × Hp)} {rc2 : Int32 → Hp → Option (Int32 × Hp)} (C : jC G X cX3_readTerm 4 RX3 (8 + (d + 1)) (282 + 23 * (d + 1))) (IH0 : ∀ (l : Launch) (v1 : Int32) (h : Hp) (out : (Int32 × Hp)), rc0 v1 h = some out → mt G l yX3_readPart cX3_readPart 4 (some .boolean) (8 + d) (282 + 23 * d) [.ref (G.1 + 47), .int v1] h (some (.int out.1)) out.2) (IH1 : ∀ (l : Launch) (v1 : Int32) (h : Hp) (out : (Int32 × Hp)), rc1 v1 h = some out → mt G l yX3_readSum cX3_readSum 4 (some .boolean) (8 + d) (282 + 23 * d) [.ref (G.1 + 47), .int v1] h (some (.int out.1)) out.2) (IH2 : ∀ (l : Launch) (v1 : Int32) (h : Hp) (out : (Int32 × Hp)), rc2 v1 h = some out → mt G l yX3_readTerm cX3_readTerm 4 (some .boolean) (8 + d) (282 + 23 * d) [.ref (G.1 + 47), .int v1] h (some (.int out.1)) out.2) {h : Hp} {out : (Int32 × Hp)} (O : (O_Reader_readTerm G X) out) (hm : b_Reader_readTerm_78 rc0 rc1 rc2 h = some out) : J G X 78 [] [] h := by
  unfold b_Reader_readTerm_78 at hm
  refine j_iconst C 1 dX3_readTerm_78 (by decide) ?_
  obtain rfl := Option.some.inj hm
  exact j_zret C O (by decide) dX3_readTerm_79
theorem w_Reader_readTerm_12 {G : jG} {X : jX} {d : Nat} {rc0 : Int32 → Hp → Option (Int32 × Hp)} {rc1 : Int32 → Hp → Option (Int32 × Hp)} {rc2 : Int32 → Hp → Option (Int32 × Hp)} (C : jC G X cX3_readTerm 4 RX3 (8 + (d + 1)) (282 + 23 * (d + 1))) (IH0 : ∀ (l : Launch) (v1 : Int32) (h : Hp) (out : (Int32 × Hp)), rc0 v1 h = some out → mt G l yX3_readPart cX3_readPart 4 (some .boolean) (8 + d) (282 + 23 * d) [.ref (G.1 + 47), .int v1] h (some (.int out.1)) out.2) (IH1 : ∀ (l : Launch) (v1 : Int32) (h : Hp) (out : (Int32 × Hp)), rc1 v1 h = some out → mt G l yX3_readSum cX3_readSum 4 (some .boolean) (8 + d) (282 + 23 * d) [.ref (G.1 + 47), .int v1] h (some (.int out.1)) out.2) (IH2 : ∀ (l : Launch) (v1 : Int32) (h : Hp) (out : (Int32 × Hp)), rc2 v1 h = some out → mt G l yX3_readTerm cX3_readTerm 4 (some .boolean) (8 + d) (282 + 23 * d) [.ref (G.1 + 47), .int v1] h (some (.int out.1)) out.2) {v1 : Int32} {v2 : Int32} {h : Hp} {out : ((Int32 × Int32 × Hp) ⊕ (Int32 × Hp))} (O : (O_Reader_readTerm_12 G X) out) (hm : b_Reader_readTerm_12 rc0 rc1 rc2 v1 v2 h = some out) : J G X 12 [(0, .ref (G.1 + 47)), (1, .int v1), (2, .int v2)] [] h := by
  unfold b_Reader_readTerm_12 at hm
  refine j_iload_n C 2 dX3_readTerm_12 rfl rfl ?_
  refine j_sipush C 400 dX3_readTerm_13 (by decide) ?_
  refine j_if_icmpge C 78 dX3_readTerm_16 (by decide) hm (fun hm => ?_) (fun hm => ?_)
  · obtain ⟨o_0, hm_0, rfl⟩ := inr_inv hm
    refine j_sub (L' := []) [] rfl ?_
    exact w_Reader_readTerm_78 C IH0 IH1 IH2 O hm_0
  · refine j_aload_n C 0 dX3_readTerm_19 rfl rfl ?_
    refine j_bipush C 42 dX3_readTerm_20 (by decide) ?_
    refine j_cV C l_X3_62 [.int ((42 : Int32))] [] (fun u1 => some (.int u1)) (fun _ => h) (fun u1 => [.int u1]) n_47 hm (fun l u hu => c_Reader_isOther hu) rfl (Nat.le_of_ble_eq_true rfl) rfl (by omega) (by omega) (fun _ => rfl) dX3_readTerm_22 (fun u1 hm => ?_)
    refine j_ifne C 37 dX3_readTerm_25 (by decide) hm (fun hm => ?_) (fun hm => ?_)
    · refine j_aload_n C 0 dX3_readTerm_28 rfl rfl ?_
      refine j_bipush C 47 dX3_readTerm_29 (by decide) ?_
      refine j_cV C l_X3_62 [.int ((47 : Int32))] [] (fun u2 => some (.int u2)) (fun _ => h) (fun u2 => [.int u2]) n_47 hm (fun l u hu => c_Reader_isOther hu) rfl (Nat.le_of_ble_eq_true rfl) rfl (by omega) (by omega) (fun _ => rfl) dX3_readTerm_31 (fun u2 hm => ?_)
      refine j_ifeq C 78 dX3_readTerm_34 (by decide) hm (fun hm => ?_) (fun hm => ?_)
      · obtain ⟨o_0, hm_0, rfl⟩ := inr_inv hm
        refine j_sub (L' := []) [] rfl ?_
        exact w_Reader_readTerm_78 C IH0 IH1 IH2 O hm_0
      · refine j_sub (L' := [(0, .ref (G.1 + 47)), (1, .int v1), (2, .int v2)]) [0, 1, 2] rfl ?_
        exact w_Reader_readTerm_37 C IH0 IH1 IH2 O hm
    · refine j_sub (L' := [(0, .ref (G.1 + 47)), (1, .int v1), (2, .int v2)]) [0, 1, 2] rfl ?_
      exact w_Reader_readTerm_37 C IH0 IH1 IH2 O hm
theorem k_Reader_readTerm_12 {G : jG} {X : jX} {d : Nat} {rc0 : Int32 → Hp → Option (Int32 × Hp)} {rc1 : Int32 → Hp → Option (Int32 × Hp)} {rc2 : Int32 → Hp → Option (Int32 × Hp)} (C : jC G X cX3_readTerm 4 RX3 (8 + (d + 1)) (282 + 23 * (d + 1))) (IH0 : ∀ (l : Launch) (v1 : Int32) (h : Hp) (out : (Int32 × Hp)), rc0 v1 h = some out → mt G l yX3_readPart cX3_readPart 4 (some .boolean) (8 + d) (282 + 23 * d) [.ref (G.1 + 47), .int v1] h (some (.int out.1)) out.2) (IH1 : ∀ (l : Launch) (v1 : Int32) (h : Hp) (out : (Int32 × Hp)), rc1 v1 h = some out → mt G l yX3_readSum cX3_readSum 4 (some .boolean) (8 + d) (282 + 23 * d) [.ref (G.1 + 47), .int v1] h (some (.int out.1)) out.2) (IH2 : ∀ (l : Launch) (v1 : Int32) (h : Hp) (out : (Int32 × Hp)), rc2 v1 h = some out → mt G l yX3_readTerm cX3_readTerm 4 (some .boolean) (8 + d) (282 + 23 * d) [.ref (G.1 + 47), .int v1] h (some (.int out.1)) out.2) {v1 : Int32} {v2 : Int32} {h : Hp} {out : (Int32 × Hp)} (O : (O_Reader_readTerm G X) out) (hm : lp (fun q => b_Reader_readTerm_12 rc0 rc1 rc2 q.1 q.2.1 q.2.2) (v1, v2, h) = some out) : J G X 12 [(0, .ref (G.1 + 47)), (1, .int v1), (2, .int v2)] [] h :=
  lp_ok (P := P_Reader_readTerm_12 G X) (O := (O_Reader_readTerm G X)) (fun q r hm O => w_Reader_readTerm_12 C IH0 IH1 IH2 O hm) hm O
theorem w_Reader_readTerm {G : jG} {X : jX} {d : Nat} {rc0 : Int32 → Hp → Option (Int32 × Hp)} {rc1 : Int32 → Hp → Option (Int32 × Hp)} {rc2 : Int32 → Hp → Option (Int32 × Hp)} (C : jC G X cX3_readTerm 4 RX3 (8 + (d + 1)) (282 + 23 * (d + 1))) (IH0 : ∀ (l : Launch) (v1 : Int32) (h : Hp) (out : (Int32 × Hp)), rc0 v1 h = some out → mt G l yX3_readPart cX3_readPart 4 (some .boolean) (8 + d) (282 + 23 * d) [.ref (G.1 + 47), .int v1] h (some (.int out.1)) out.2) (IH1 : ∀ (l : Launch) (v1 : Int32) (h : Hp) (out : (Int32 × Hp)), rc1 v1 h = some out → mt G l yX3_readSum cX3_readSum 4 (some .boolean) (8 + d) (282 + 23 * d) [.ref (G.1 + 47), .int v1] h (some (.int out.1)) out.2) (IH2 : ∀ (l : Launch) (v1 : Int32) (h : Hp) (out : (Int32 × Hp)), rc2 v1 h = some out → mt G l yX3_readTerm cX3_readTerm 4 (some .boolean) (8 + d) (282 + 23 * d) [.ref (G.1 + 47), .int v1] h (some (.int out.1)) out.2) {v1 : Int32} {h : Hp} {out : (Int32 × Hp)} (O : (O_Reader_readTerm G X) out) (hm : b_Reader_readTerm rc0 rc1 rc2 v1 h = some out) : J G X 0 [(0, .ref (G.1 + 47)), (1, .int v1)] [] h := by
  unfold b_Reader_readTerm at hm
  refine j_aload_n C 0 dX3_readTerm_0 rfl rfl ?_
  refine j_iload_n C 1 dX3_readTerm_1 rfl rfl ?_
  refine j_cV C l_X3_120 [.int v1] [] (fun u1 => some (.int u1.1)) (fun u1 => u1.2) (fun u1 => [.int u1.1]) n_47 hm (fun l u hu => IH0 _ _ _ _ hu) rfl (Nat.le_of_ble_eq_true rfl) rfl (by omega) (by omega) (fun _ => rfl) dX3_readTerm_2 (fun u1 hm => ?_)
  refine j_ifne C 10 dX3_readTerm_5 (by decide) hm (fun hm => ?_) (fun hm => ?_)
  · refine j_iconst C 0 dX3_readTerm_8 (by decide) ?_
    obtain rfl := Option.some.inj hm
    exact j_zret C O (by decide) dX3_readTerm_9
  · refine j_iconst C 0 dX3_readTerm_10 (by decide) ?_
    refine j_istore_n C [(2, .int ((0 : Int32))), (0, .ref (G.1 + 47)), (1, .int v1)] dX3_readTerm_11 rfl (by decide) rfl ?_
    refine j_sub (L' := [(0, .ref (G.1 + 47)), (1, .int v1), (2, .int ((0 : Int32)))]) [1, 2, 0] rfl ?_
    exact k_Reader_readTerm_12 C IH0 IH1 IH2 O hm
theorem c_r_Reader_readPart {G : jG} : ∀ d : Nat, (∀ (l : Launch) (v1 : Int32) (h : Hp) (out : (Int32 × Hp)), (r_Reader_readPart d).1 v1 h = some out → mt G l yX3_readPart cX3_readPart 4 (some .boolean) (8 + d) (282 + 23 * d) [.ref (G.1 + 47), .int v1] h (some (.int out.1)) out.2) ∧ (∀ (l : Launch) (v1 : Int32) (h : Hp) (out : (Int32 × Hp)), (r_Reader_readPart d).2.1 v1 h = some out → mt G l yX3_readSum cX3_readSum 4 (some .boolean) (8 + d) (282 + 23 * d) [.ref (G.1 + 47), .int v1] h (some (.int out.1)) out.2) ∧ (∀ (l : Launch) (v1 : Int32) (h : Hp) (out : (Int32 × Hp)), (r_Reader_readPart d).2.2 v1 h = some out → mt G l yX3_readTerm cX3_readTerm 4 (some .boolean) (8 + d) (282 + 23 * d) [.ref (G.1 + 47), .int v1] h (some (.int out.1)) out.2)
  | 0 => ⟨fun _ _ _ _ e => (by cases e), fun _ _ _ _ e => (by cases e), fun _ _ _ _ e => (by cases e)⟩
  | d + 1 => by
    obtain ⟨g0, g1, g2⟩ := c_r_Reader_readPart (G := G) d
    exact ⟨fun l v1 h out hm => mt_of (by decide) (Nat.le_of_ble_eq_true rfl) _ rfl (fun X _ C O => w_Reader_readPart C g0 g1 g2 O hm), fun l v1 h out hm => mt_of (by decide) (Nat.le_of_ble_eq_true rfl) _ rfl (fun X _ C O => w_Reader_readSum C g0 g1 g2 O hm), fun l v1 h out hm => mt_of (by decide) (Nat.le_of_ble_eq_true rfl) _ rfl (fun X _ C O => w_Reader_readTerm C g0 g1 g2 O hm)⟩
theorem c_Reader_readPart {G : jG} {l : Launch} {v1 : Int32} {h : Hp} {out : (Int32 × Hp)} (hm : s_Reader_readPart v1 h = some out) : mt G l yX3_readPart cX3_readPart 4 (some .boolean) 88 2122 [.ref (G.1 + 47), .int v1] h (some (.int out.1)) out.2 := (c_r_Reader_readPart 80).1 l v1 h out hm
theorem c_Reader_readSum {G : jG} {l : Launch} {v1 : Int32} {h : Hp} {out : (Int32 × Hp)} (hm : s_Reader_readSum v1 h = some out) : mt G l yX3_readSum cX3_readSum 4 (some .boolean) 88 2122 [.ref (G.1 + 47), .int v1] h (some (.int out.1)) out.2 := (c_r_Reader_readPart 80).2.1 l v1 h out hm
theorem c_Reader_readTerm {G : jG} {l : Launch} {v1 : Int32} {h : Hp} {out : (Int32 × Hp)} (hm : s_Reader_readTerm v1 h = some out) : mt G l yX3_readTerm cX3_readTerm 4 (some .boolean) 88 2122 [.ref (G.1 + 47), .int v1] h (some (.int out.1)) out.2 := (c_r_Reader_readPart 80).2.2 l v1 h out hm
noncomputable def s_Reader_aimHere_23 (h : Hp) : Option Hp :=
  some h
noncomputable def s_Reader_aimHere (v1 : Int32) (v2 : Int32) (h : Hp) : Option Hp :=
  if ((400 : Int32)) ≤ v1 then
    s_Reader_aimHere_23 h
  else
    ib v1 400 <| s_Reader_aimHere_23 (sI h 48 (ix v1) (v2 ||| (z_shl (hI h 47 3) ((4 : Int32)))))
def O_Reader_aimHere (G : jG) (X : jX) (out : Hp) : Prop := jO G X (none) none out
theorem w_Reader_aimHere_23 {G : jG} {X : jX} (C : jC G X cX3_aimHere 3 RX3 1 70) {h : Hp} {out : Hp} (O : (O_Reader_aimHere G X) out) (hm : s_Reader_aimHere_23 h = some out) : J G X 23 [] [] h := by
  unfold s_Reader_aimHere_23 at hm
  obtain rfl := Option.some.inj hm
  exact j_vret C O dX3_aimHere_23
theorem w_Reader_aimHere {G : jG} {X : jX} (C : jC G X cX3_aimHere 3 RX3 1 70) {v1 : Int32} {v2 : Int32} {h : Hp} {out : Hp} (O : (O_Reader_aimHere G X) out) (hm : s_Reader_aimHere v1 v2 h = some out) : J G X 0 [(0, .ref (G.1 + 47)), (1, .int v1), (2, .int v2)] [] h := by
  unfold s_Reader_aimHere at hm
  refine j_iload_n C 1 dX3_aimHere_0 rfl rfl ?_
  refine j_aload_n C 0 dX3_aimHere_1 rfl rfl ?_
  refine j_gS C f_X3_9 n_47 q_47_1 dX3_aimHere_2 ?_
  refine j_alen C 400 n_48 (by decide) dX3_aimHere_5 ?_
  refine j_if_icmpge C 23 dX3_aimHere_6 (by decide) hm (fun hm => ?_) (fun hm => ?_)
  · refine j_sub (L' := []) [] rfl ?_
    exact w_Reader_aimHere_23 C O hm
  · refine j_aload_n C 0 dX3_aimHere_9 rfl rfl ?_
    refine j_gS C f_X3_9 n_47 q_47_1 dX3_aimHere_10 ?_
    refine j_iload_n C 1 dX3_aimHere_13 rfl rfl ?_
    refine j_iload_n C 2 dX3_aimHere_14 rfl rfl ?_
    refine j_aload_n C 0 dX3_aimHere_15 rfl rfl ?_
    refine j_gI C f_X3_20 n_47 dX3_aimHere_16 ?_
    refine j_iconst C 4 dX3_aimHere_19 (by decide) ?_
    refine j_ishl C dX3_aimHere_20 ?_
    refine j_ior C dX3_aimHere_21 ?_
    refine j_iast C n_48 hm dX3_aimHere_22 (fun hm => ?_)
    refine j_sub (L' := []) [] rfl ?_
    exact w_Reader_aimHere_23 C O hm
theorem c_Reader_aimHere {G : jG} {l : Launch} {v1 : Int32} {v2 : Int32} {h : Hp} {out : Hp} (hm : s_Reader_aimHere v1 v2 h = some out) : mt G l yX3_aimHere cX3_aimHere 3 (none) 1 70 [.ref (G.1 + 47), .int v1, .int v2] h none out :=
  mt_of (by decide) (Nat.le_of_ble_eq_true rfl) _ rfl (fun X I C O => w_Reader_aimHere C O hm)
noncomputable def s_Reader_comparisonHere_43 (s0 : Int32) (h : Hp) : Option Int32 :=
  some (s0)
noncomputable def s_Reader_comparisonHere (h : Hp) : Option Int32 :=
  (s_Reader_isOther ((60 : Int32)) h).bind fun u1 => if u1 = 0 then
    (s_Reader_isOther ((62 : Int32)) h).bind fun u2 => if u2 = 0 then
      (s_Reader_isOther ((61 : Int32)) h).bind fun u3 => if u3 = 0 then
        s_Reader_comparisonHere_43 ((-1 : Int32)) h
      else
        s_Reader_comparisonHere_43 ((8 : Int32)) h
    else
      s_Reader_comparisonHere_43 ((7 : Int32)) h
  else
    s_Reader_comparisonHere_43 ((6 : Int32)) h
def O_Reader_comparisonHere (G : jG) (X : jX) (h : Hp) (out : Int32) : Prop := jO G X (some .int) (some (.int out)) h
theorem w_Reader_comparisonHere_43 {G : jG} {X : jX} (C : jC G X cX3_comparisonHere 1 RX3 2 91) {s0 : Int32} {h : Hp} {out : Int32} (O : (O_Reader_comparisonHere G X h) out) (hm : s_Reader_comparisonHere_43 s0 h = some out) : J G X 43 [] [.int s0] h := by
  unfold s_Reader_comparisonHere_43 at hm
  obtain rfl := Option.some.inj hm
  exact j_iret C O dX3_comparisonHere_43
theorem w_Reader_comparisonHere {G : jG} {X : jX} (C : jC G X cX3_comparisonHere 1 RX3 2 91) {h : Hp} {out : Int32} (O : (O_Reader_comparisonHere G X h) out) (hm : s_Reader_comparisonHere h = some out) : J G X 0 [(0, .ref (G.1 + 47))] [] h := by
  unfold s_Reader_comparisonHere at hm
  refine j_aload_n C 0 dX3_comparisonHere_0 rfl rfl ?_
  refine j_bipush C 60 dX3_comparisonHere_1 (by decide) ?_
  refine j_cV C l_X3_62 [.int ((60 : Int32))] [] (fun u1 => some (.int u1)) (fun _ => h) (fun u1 => [.int u1]) n_47 hm (fun l u hu => c_Reader_isOther hu) rfl (Nat.le_of_ble_eq_true rfl) rfl (Nat.le_of_ble_eq_true rfl) (Nat.le_of_ble_eq_true rfl) (fun _ => rfl) dX3_comparisonHere_3 (fun u1 hm => ?_)
  refine j_ifeq C 14 dX3_comparisonHere_6 (by decide) hm (fun hm => ?_) (fun hm => ?_)
  · refine j_aload_n C 0 dX3_comparisonHere_14 rfl rfl ?_
    refine j_bipush C 62 dX3_comparisonHere_15 (by decide) ?_
    refine j_cV C l_X3_62 [.int ((62 : Int32))] [] (fun u2 => some (.int u2)) (fun _ => h) (fun u2 => [.int u2]) n_47 hm (fun l u hu => c_Reader_isOther hu) rfl (Nat.le_of_ble_eq_true rfl) rfl (Nat.le_of_ble_eq_true rfl) (Nat.le_of_ble_eq_true rfl) (fun _ => rfl) dX3_comparisonHere_17 (fun u2 hm => ?_)
    refine j_ifeq C 28 dX3_comparisonHere_20 (by decide) hm (fun hm => ?_) (fun hm => ?_)
    · refine j_aload_n C 0 dX3_comparisonHere_28 rfl rfl ?_
      refine j_bipush C 61 dX3_comparisonHere_29 (by decide) ?_
      refine j_cV C l_X3_62 [.int ((61 : Int32))] [] (fun u3 => some (.int u3)) (fun _ => h) (fun u3 => [.int u3]) n_47 hm (fun l u hu => c_Reader_isOther hu) rfl (Nat.le_of_ble_eq_true rfl) rfl (Nat.le_of_ble_eq_true rfl) (Nat.le_of_ble_eq_true rfl) (fun _ => rfl) dX3_comparisonHere_31 (fun u3 hm => ?_)
      refine j_ifeq C 42 dX3_comparisonHere_34 (by decide) hm (fun hm => ?_) (fun hm => ?_)
      · refine j_iconst C (-1 : Int32) dX3_comparisonHere_42 (by decide) ?_
        refine j_sub (L' := []) [] rfl ?_
        exact w_Reader_comparisonHere_43 C O hm
      · refine j_bipush C 8 dX3_comparisonHere_37 (by decide) ?_
        refine j_goto C 43 dX3_comparisonHere_39 (by decide) ?_
        refine j_sub (L' := []) [] rfl ?_
        exact w_Reader_comparisonHere_43 C O hm
    · refine j_bipush C 7 dX3_comparisonHere_23 (by decide) ?_
      refine j_goto C 43 dX3_comparisonHere_25 (by decide) ?_
      refine j_sub (L' := []) [] rfl ?_
      exact w_Reader_comparisonHere_43 C O hm
  · refine j_bipush C 6 dX3_comparisonHere_9 (by decide) ?_
    refine j_goto C 43 dX3_comparisonHere_11 (by decide) ?_
    refine j_sub (L' := []) [] rfl ?_
    exact w_Reader_comparisonHere_43 C O hm
theorem c_Reader_comparisonHere {G : jG} {l : Launch} {h : Hp} {out : Int32} (hm : s_Reader_comparisonHere h = some out) : mt G l yX3_comparisonHere cX3_comparisonHere 1 (some .int) 2 91 [.ref (G.1 + 47)] h (some (.int out)) h :=
  mt_of (by decide) (Nat.le_of_ble_eq_true rfl) _ rfl (fun X I C O => w_Reader_comparisonHere C O hm)
