noncomputable def s_Mod_wordOf_96 (v1 : Int32) (v2 : Int32) (v3 : Int32) (v4 : Int32) (v5 : Int32) (v7 : Int32) (s0 : Int32) (h : Hp) : Option ((Int32 × Int32 × Int32 × Int32 × Int32 × Int32 × Int32) ⊕ ((Int32 × Int32 × Int32 × Int32) ⊕ Int32)) :=
  some (.inl (v1, v2, v3, v4, v5, s0, (v7 + (1 : Int32))))
noncomputable def s_Mod_wordOf_104 (v1 : Int32) (v2 : Int32) (v3 : Int32) (v4 : Int32) (v5 : Int32) (v6 : Int32) (h : Hp) : Option ((Int32 × Int32 × Int32 × Int32) ⊕ Int32) :=
  if v6 = 0 then
    some (.inl (v1, v2, (v3 + (1 : Int32)), (v4 + (v5 + ((1 : Int32))))))
  else
    some (.inr (v3))
noncomputable def s_Mod_wordOf_57 (v1 : Int32) (v2 : Int32) (v3 : Int32) (v4 : Int32) (v5 : Int32) (v6 : Int32) (v7 : Int32) (h : Hp) : Option ((Int32 × Int32 × Int32 × Int32 × Int32 × Int32 × Int32) ⊕ ((Int32 × Int32 × Int32 × Int32) ⊕ Int32)) :=
  if v5 ≤ v7 then
    inr (s_Mod_wordOf_104 v1 v2 v3 v4 v5 v6 h)
  else
    if v6 = 0 then
      inr (s_Mod_wordOf_104 v1 v2 v3 v4 v5 v6 h)
    else
      ib (v4 + v7) 68 <| ib (v1 + v7) 400 <| if (hI h 89 (ix (v4 + v7))) = (hI h 90 (ix (v1 + v7))) then
        s_Mod_wordOf_96 v1 v2 v3 v4 v5 v7 ((1 : Int32)) h
      else
        s_Mod_wordOf_96 v1 v2 v3 v4 v5 v7 ((0 : Int32)) h
noncomputable def s_Mod_wordOf_52 (v1 : Int32) (v2 : Int32) (v3 : Int32) (v4 : Int32) (v5 : Int32) (s0 : Int32) (h : Hp) : Option ((Int32 × Int32 × Int32 × Int32) ⊕ Int32) :=
  lp (fun q => s_Mod_wordOf_57 q.1 q.2.1 q.2.2.1 q.2.2.2.1 q.2.2.2.2.1 q.2.2.2.2.2.1 q.2.2.2.2.2.2 h) (v1, v2, v3, v4, v5, s0, ((0 : Int32)))
noncomputable def s_Mod_wordOf_18 (v1 : Int32) (v2 : Int32) (v3 : Int32) (v4 : Int32) (v5 : Int32) (h : Hp) : Option ((Int32 × Int32 × Int32 × Int32 × Int32) ⊕ ((Int32 × Int32 × Int32 × Int32) ⊕ Int32)) :=
  ib (v4 + v5) 68 <| if (hI h 89 (ix (v4 + v5))) = ((32 : Int32)) then
    if v5 = (v2 - v1) then
      inr (s_Mod_wordOf_52 v1 v2 v3 v4 v5 ((1 : Int32)) h)
    else
      inr (s_Mod_wordOf_52 v1 v2 v3 v4 v5 ((0 : Int32)) h)
  else
    some (.inl (v1, v2, v3, v4, (v5 + (1 : Int32))))
noncomputable def s_Mod_wordOf_5 (v1 : Int32) (v2 : Int32) (v3 : Int32) (v4 : Int32) (h : Hp) : Option ((Int32 × Int32 × Int32 × Int32) ⊕ Int32) :=
  if ((68 : Int32)) ≤ v4 then
    some (.inr ((0 : Int32)))
  else
    lp (fun q => s_Mod_wordOf_18 q.1 q.2.1 q.2.2.1 q.2.2.2.1 q.2.2.2.2 h) (v1, v2, v3, v4, ((0 : Int32)))
noncomputable def s_Mod_wordOf (v1 : Int32) (v2 : Int32) (h : Hp) : Option Int32 :=
  lp (fun q => s_Mod_wordOf_5 q.1 q.2.1 q.2.2.1 q.2.2.2 h) (v1, v2, ((1 : Int32)), ((0 : Int32)))
def O_Mod_wordOf (G : jG) (X : jX) (h : Hp) (out : Int32) : Prop := jO G X (some .int) (some (.int out)) h
def P_Mod_wordOf_5 (G : jG) (X : jX) (h : Hp) (q : Int32 × Int32 × Int32 × Int32) : Prop := J G X 5 [(0, .ref (G.1 + 84)), (1, .int q.1), (2, .int q.2.1), (3, .int q.2.2.1), (4, .int q.2.2.2)] [] h
def O_Mod_wordOf_5 (G : jG) (X : jX) (h : Hp) (t : ((Int32 × Int32 × Int32 × Int32) ⊕ Int32)) : Prop := Sum.elim (P_Mod_wordOf_5 G X h) (O_Mod_wordOf G X h) t
def P_Mod_wordOf_18 (G : jG) (X : jX) (h : Hp) (q : Int32 × Int32 × Int32 × Int32 × Int32) : Prop := J G X 18 [(0, .ref (G.1 + 84)), (1, .int q.1), (2, .int q.2.1), (3, .int q.2.2.1), (4, .int q.2.2.2.1), (5, .int q.2.2.2.2)] [] h
def O_Mod_wordOf_18 (G : jG) (X : jX) (h : Hp) (t : ((Int32 × Int32 × Int32 × Int32 × Int32) ⊕ ((Int32 × Int32 × Int32 × Int32) ⊕ Int32))) : Prop := Sum.elim (P_Mod_wordOf_18 G X h) (O_Mod_wordOf_5 G X h) t
def P_Mod_wordOf_57 (G : jG) (X : jX) (h : Hp) (q : Int32 × Int32 × Int32 × Int32 × Int32 × Int32 × Int32) : Prop := J G X 57 [(0, .ref (G.1 + 84)), (1, .int q.1), (2, .int q.2.1), (3, .int q.2.2.1), (4, .int q.2.2.2.1), (5, .int q.2.2.2.2.1), (6, .int q.2.2.2.2.2.1), (7, .int q.2.2.2.2.2.2)] [] h
def O_Mod_wordOf_57 (G : jG) (X : jX) (h : Hp) (t : ((Int32 × Int32 × Int32 × Int32 × Int32 × Int32 × Int32) ⊕ ((Int32 × Int32 × Int32 × Int32) ⊕ Int32))) : Prop := Sum.elim (P_Mod_wordOf_57 G X h) (O_Mod_wordOf_5 G X h) t
theorem w_Mod_wordOf_96 {G : jG} {X : jX} (C : jC G X cX12_wordOf 8 RX12 1 70) {v1 : Int32} {v2 : Int32} {v3 : Int32} {v4 : Int32} {v5 : Int32} {v7 : Int32} {s0 : Int32} {h : Hp} {out : ((Int32 × Int32 × Int32 × Int32 × Int32 × Int32 × Int32) ⊕ ((Int32 × Int32 × Int32 × Int32) ⊕ Int32))} (O : (O_Mod_wordOf_57 G X h) out) (hm : s_Mod_wordOf_96 v1 v2 v3 v4 v5 v7 s0 h = some out) : J G X 96 [(0, .ref (G.1 + 84)), (1, .int v1), (2, .int v2), (3, .int v3), (4, .int v4), (5, .int v5), (7, .int v7)] [.int s0] h := by
  unfold s_Mod_wordOf_96 at hm
  refine j_istore C [(6, .int s0), (0, .ref (G.1 + 84)), (1, .int v1), (2, .int v2), (3, .int v3), (4, .int v4), (5, .int v5), (7, .int v7)] dX12_wordOf_96 (by decide) rfl ?_
  refine j_iinc C 7 [(7, .int (v7 + (1 : Int32))), (6, .int s0), (0, .ref (G.1 + 84)), (1, .int v1), (2, .int v2), (3, .int v3), (4, .int v4), (5, .int v5)] dX12_wordOf_98 rfl (add_lit (by decide)) (by decide) rfl ?_
  refine j_goto C 57 dX12_wordOf_101 (by decide) ?_
  obtain rfl := Option.some.inj hm
  refine j_sub (L' := [(0, .ref (G.1 + 84)), (1, .int v1), (2, .int v2), (3, .int v3), (4, .int v4), (5, .int v5), (6, .int s0), (7, .int (v7 + (1 : Int32)))]) [2, 3, 4, 5, 6, 7, 1, 0] rfl ?_
  exact O
theorem w_Mod_wordOf_104 {G : jG} {X : jX} (C : jC G X cX12_wordOf 8 RX12 1 70) {v1 : Int32} {v2 : Int32} {v3 : Int32} {v4 : Int32} {v5 : Int32} {v6 : Int32} {h : Hp} {out : ((Int32 × Int32 × Int32 × Int32) ⊕ Int32)} (O : (O_Mod_wordOf_5 G X h) out) (hm : s_Mod_wordOf_104 v1 v2 v3 v4 v5 v6 h = some out) : J G X 104 [(0, .ref (G.1 + 84)), (1, .int v1), (2, .int v2), (3, .int v3), (4, .int v4), (5, .int v5), (6, .int v6)] [] h := by
  unfold s_Mod_wordOf_104 at hm
  refine j_iload C 6 dX12_wordOf_104 rfl ?_
  refine j_ifeq C 111 dX12_wordOf_106 (by decide) hm (fun hm => ?_) (fun hm => ?_)
  · refine j_iload C 4 dX12_wordOf_111 rfl ?_
    refine j_iload C 5 dX12_wordOf_113 rfl ?_
    refine j_iconst C 1 dX12_wordOf_115 (by decide) ?_
    refine j_iadd C dX12_wordOf_116 ?_
    refine j_iadd C dX12_wordOf_117 ?_
    refine j_istore C [(4, .int (v4 + (v5 + ((1 : Int32))))), (0, .ref (G.1 + 84)), (1, .int v1), (2, .int v2), (3, .int v3), (5, .int v5), (6, .int v6)] dX12_wordOf_118 (by decide) rfl ?_
    refine j_iinc C 4 [(3, .int (v3 + (1 : Int32))), (4, .int (v4 + (v5 + ((1 : Int32))))), (0, .ref (G.1 + 84)), (1, .int v1), (2, .int v2), (5, .int v5), (6, .int v6)] dX12_wordOf_120 rfl (add_lit (by decide)) (by decide) rfl ?_
    refine j_goto C 5 dX12_wordOf_123 (by decide) ?_
    obtain rfl := Option.some.inj hm
    refine j_sub (L' := [(0, .ref (G.1 + 84)), (1, .int v1), (2, .int v2), (3, .int (v3 + (1 : Int32))), (4, .int (v4 + (v5 + ((1 : Int32)))))]) [2, 3, 4, 0, 1] rfl ?_
    exact O
  · refine j_iload_n C 3 dX12_wordOf_109 rfl rfl ?_
    obtain rfl := Option.some.inj hm
    exact j_iret C O dX12_wordOf_110
theorem w_Mod_wordOf_57 {G : jG} {X : jX} (C : jC G X cX12_wordOf 8 RX12 1 70) {v1 : Int32} {v2 : Int32} {v3 : Int32} {v4 : Int32} {v5 : Int32} {v6 : Int32} {v7 : Int32} {h : Hp} {out : ((Int32 × Int32 × Int32 × Int32 × Int32 × Int32 × Int32) ⊕ ((Int32 × Int32 × Int32 × Int32) ⊕ Int32))} (O : (O_Mod_wordOf_57 G X h) out) (hm : s_Mod_wordOf_57 v1 v2 v3 v4 v5 v6 v7 h = some out) : J G X 57 [(0, .ref (G.1 + 84)), (1, .int v1), (2, .int v2), (3, .int v3), (4, .int v4), (5, .int v5), (6, .int v6), (7, .int v7)] [] h := by
  unfold s_Mod_wordOf_57 at hm
  refine j_iload C 7 dX12_wordOf_57 rfl ?_
  refine j_iload C 5 dX12_wordOf_59 rfl ?_
  refine j_if_icmpge C 104 dX12_wordOf_61 (by decide) hm (fun hm => ?_) (fun hm => ?_)
  · obtain ⟨o_0, hm_0, rfl⟩ := inr_inv hm
    refine j_sub (L' := [(0, .ref (G.1 + 84)), (1, .int v1), (2, .int v2), (3, .int v3), (4, .int v4), (5, .int v5), (6, .int v6)]) [0, 1, 2, 3, 4, 5, 6] rfl ?_
    exact w_Mod_wordOf_104 C O hm_0
  · refine j_iload C 6 dX12_wordOf_64 rfl ?_
    refine j_ifeq C 104 dX12_wordOf_66 (by decide) hm (fun hm => ?_) (fun hm => ?_)
    · obtain ⟨o_0, hm_0, rfl⟩ := inr_inv hm
      refine j_sub (L' := [(0, .ref (G.1 + 84)), (1, .int v1), (2, .int v2), (3, .int v3), (4, .int v4), (5, .int v5), (6, .int v6)]) [0, 1, 2, 3, 4, 5, 6] rfl ?_
      exact w_Mod_wordOf_104 C O hm_0
    · refine j_aload_n C 0 dX12_wordOf_69 rfl rfl ?_
      refine j_gS C f_X12_30 n_84 q_84_7 dX12_wordOf_70 ?_
      refine j_iload C 4 dX12_wordOf_73 rfl ?_
      refine j_iload C 7 dX12_wordOf_75 rfl ?_
      refine j_iadd C dX12_wordOf_77 ?_
      refine j_bald C n_89 hm dX12_wordOf_78 (fun hm => ?_)
      refine j_aload_n C 0 dX12_wordOf_79 rfl rfl ?_
      refine j_gS C f_X12_34 n_84 q_84_8 dX12_wordOf_80 ?_
      refine j_iload_n C 1 dX12_wordOf_83 rfl rfl ?_
      refine j_iload C 7 dX12_wordOf_84 rfl ?_
      refine j_iadd C dX12_wordOf_86 ?_
      refine j_bald C n_90 hm dX12_wordOf_87 (fun hm => ?_)
      refine j_if_icmpne C 95 dX12_wordOf_88 (by decide) hm (fun hm => ?_) (fun hm => ?_)
      · refine j_iconst C 1 dX12_wordOf_91 (by decide) ?_
        refine j_goto C 96 dX12_wordOf_92 (by decide) ?_
        refine j_sub (L' := [(0, .ref (G.1 + 84)), (1, .int v1), (2, .int v2), (3, .int v3), (4, .int v4), (5, .int v5), (7, .int v7)]) [0, 1, 2, 3, 4, 5, 7] rfl ?_
        exact w_Mod_wordOf_96 C O hm
      · refine j_iconst C 0 dX12_wordOf_95 (by decide) ?_
        refine j_sub (L' := [(0, .ref (G.1 + 84)), (1, .int v1), (2, .int v2), (3, .int v3), (4, .int v4), (5, .int v5), (7, .int v7)]) [0, 1, 2, 3, 4, 5, 7] rfl ?_
        exact w_Mod_wordOf_96 C O hm
theorem k_Mod_wordOf_57 {G : jG} {X : jX} (C : jC G X cX12_wordOf 8 RX12 1 70) {v1 : Int32} {v2 : Int32} {v3 : Int32} {v4 : Int32} {v5 : Int32} {v6 : Int32} {v7 : Int32} {h : Hp} {out : ((Int32 × Int32 × Int32 × Int32) ⊕ Int32)} (O : (O_Mod_wordOf_5 G X h) out) (hm : lp (fun q => s_Mod_wordOf_57 q.1 q.2.1 q.2.2.1 q.2.2.2.1 q.2.2.2.2.1 q.2.2.2.2.2.1 q.2.2.2.2.2.2 h) (v1, v2, v3, v4, v5, v6, v7) = some out) : J G X 57 [(0, .ref (G.1 + 84)), (1, .int v1), (2, .int v2), (3, .int v3), (4, .int v4), (5, .int v5), (6, .int v6), (7, .int v7)] [] h :=
  lp_ok (P := P_Mod_wordOf_57 G X h) (O := (O_Mod_wordOf_5 G X h)) (fun q r hm O => w_Mod_wordOf_57 C O hm) hm O
theorem w_Mod_wordOf_52 {G : jG} {X : jX} (C : jC G X cX12_wordOf 8 RX12 1 70) {v1 : Int32} {v2 : Int32} {v3 : Int32} {v4 : Int32} {v5 : Int32} {s0 : Int32} {h : Hp} {out : ((Int32 × Int32 × Int32 × Int32) ⊕ Int32)} (O : (O_Mod_wordOf_5 G X h) out) (hm : s_Mod_wordOf_52 v1 v2 v3 v4 v5 s0 h = some out) : J G X 52 [(0, .ref (G.1 + 84)), (1, .int v1), (2, .int v2), (3, .int v3), (4, .int v4), (5, .int v5)] [.int s0] h := by
  unfold s_Mod_wordOf_52 at hm
  refine j_istore C [(6, .int s0), (0, .ref (G.1 + 84)), (1, .int v1), (2, .int v2), (3, .int v3), (4, .int v4), (5, .int v5)] dX12_wordOf_52 (by decide) rfl ?_
  refine j_iconst C 0 dX12_wordOf_54 (by decide) ?_
  refine j_istore C [(7, .int ((0 : Int32))), (6, .int s0), (0, .ref (G.1 + 84)), (1, .int v1), (2, .int v2), (3, .int v3), (4, .int v4), (5, .int v5)] dX12_wordOf_55 (by decide) rfl ?_
  refine j_sub (L' := [(0, .ref (G.1 + 84)), (1, .int v1), (2, .int v2), (3, .int v3), (4, .int v4), (5, .int v5), (6, .int s0), (7, .int ((0 : Int32)))]) [2, 3, 4, 5, 6, 7, 1, 0] rfl ?_
  exact k_Mod_wordOf_57 C O hm
theorem w_Mod_wordOf_18 {G : jG} {X : jX} (C : jC G X cX12_wordOf 8 RX12 1 70) {v1 : Int32} {v2 : Int32} {v3 : Int32} {v4 : Int32} {v5 : Int32} {h : Hp} {out : ((Int32 × Int32 × Int32 × Int32 × Int32) ⊕ ((Int32 × Int32 × Int32 × Int32) ⊕ Int32))} (O : (O_Mod_wordOf_18 G X h) out) (hm : s_Mod_wordOf_18 v1 v2 v3 v4 v5 h = some out) : J G X 18 [(0, .ref (G.1 + 84)), (1, .int v1), (2, .int v2), (3, .int v3), (4, .int v4), (5, .int v5)] [] h := by
  unfold s_Mod_wordOf_18 at hm
  refine j_aload_n C 0 dX12_wordOf_18 rfl rfl ?_
  refine j_gS C f_X12_30 n_84 q_84_7 dX12_wordOf_19 ?_
  refine j_iload C 4 dX12_wordOf_22 rfl ?_
  refine j_iload C 5 dX12_wordOf_24 rfl ?_
  refine j_iadd C dX12_wordOf_26 ?_
  refine j_bald C n_89 hm dX12_wordOf_27 (fun hm => ?_)
  refine j_bipush C 32 dX12_wordOf_28 (by decide) ?_
  refine j_if_icmpeq C 39 dX12_wordOf_30 (by decide) hm (fun hm => ?_) (fun hm => ?_)
  · refine j_iload C 5 dX12_wordOf_39 rfl ?_
    refine j_iload_n C 2 dX12_wordOf_41 rfl rfl ?_
    refine j_iload_n C 1 dX12_wordOf_42 rfl rfl ?_
    refine j_isub C dX12_wordOf_43 ?_
    refine j_if_icmpne C 51 dX12_wordOf_44 (by decide) hm (fun hm => ?_) (fun hm => ?_)
    · refine j_iconst C 1 dX12_wordOf_47 (by decide) ?_
      refine j_goto C 52 dX12_wordOf_48 (by decide) ?_
      obtain ⟨o_0, hm_0, rfl⟩ := inr_inv hm
      refine j_sub (L' := [(0, .ref (G.1 + 84)), (1, .int v1), (2, .int v2), (3, .int v3), (4, .int v4), (5, .int v5)]) [0, 1, 2, 3, 4, 5] rfl ?_
      exact w_Mod_wordOf_52 C O hm_0
    · refine j_iconst C 0 dX12_wordOf_51 (by decide) ?_
      obtain ⟨o_0, hm_0, rfl⟩ := inr_inv hm
      refine j_sub (L' := [(0, .ref (G.1 + 84)), (1, .int v1), (2, .int v2), (3, .int v3), (4, .int v4), (5, .int v5)]) [0, 1, 2, 3, 4, 5] rfl ?_
      exact w_Mod_wordOf_52 C O hm_0
  · refine j_iinc C 5 [(5, .int (v5 + (1 : Int32))), (0, .ref (G.1 + 84)), (1, .int v1), (2, .int v2), (3, .int v3), (4, .int v4)] dX12_wordOf_33 rfl (add_lit (by decide)) (by decide) rfl ?_
    refine j_goto C 18 dX12_wordOf_36 (by decide) ?_
    obtain rfl := Option.some.inj hm
    refine j_sub (L' := [(0, .ref (G.1 + 84)), (1, .int v1), (2, .int v2), (3, .int v3), (4, .int v4), (5, .int (v5 + (1 : Int32)))]) [1, 2, 3, 4, 5, 0] rfl ?_
    exact O
theorem k_Mod_wordOf_18 {G : jG} {X : jX} (C : jC G X cX12_wordOf 8 RX12 1 70) {v1 : Int32} {v2 : Int32} {v3 : Int32} {v4 : Int32} {v5 : Int32} {h : Hp} {out : ((Int32 × Int32 × Int32 × Int32) ⊕ Int32)} (O : (O_Mod_wordOf_5 G X h) out) (hm : lp (fun q => s_Mod_wordOf_18 q.1 q.2.1 q.2.2.1 q.2.2.2.1 q.2.2.2.2 h) (v1, v2, v3, v4, v5) = some out) : J G X 18 [(0, .ref (G.1 + 84)), (1, .int v1), (2, .int v2), (3, .int v3), (4, .int v4), (5, .int v5)] [] h :=
  lp_ok (P := P_Mod_wordOf_18 G X h) (O := (O_Mod_wordOf_5 G X h)) (fun q r hm O => w_Mod_wordOf_18 C O hm) hm O
theorem w_Mod_wordOf_5 {G : jG} {X : jX} (C : jC G X cX12_wordOf 8 RX12 1 70) {v1 : Int32} {v2 : Int32} {v3 : Int32} {v4 : Int32} {h : Hp} {out : ((Int32 × Int32 × Int32 × Int32) ⊕ Int32)} (O : (O_Mod_wordOf_5 G X h) out) (hm : s_Mod_wordOf_5 v1 v2 v3 v4 h = some out) : J G X 5 [(0, .ref (G.1 + 84)), (1, .int v1), (2, .int v2), (3, .int v3), (4, .int v4)] [] h := by
  unfold s_Mod_wordOf_5 at hm
  refine j_iload C 4 dX12_wordOf_5 rfl ?_
  refine j_aload_n C 0 dX12_wordOf_7 rfl rfl ?_
  refine j_gS C f_X12_30 n_84 q_84_7 dX12_wordOf_8 ?_
  refine j_alenB C 68 n_89 (by decide) dX12_wordOf_11 ?_
  refine j_if_icmpge C 126 dX12_wordOf_12 (by decide) hm (fun hm => ?_) (fun hm => ?_)
  · refine j_iconst C 0 dX12_wordOf_126 (by decide) ?_
    obtain rfl := Option.some.inj hm
    exact j_iret C O dX12_wordOf_127
  · refine j_iconst C 0 dX12_wordOf_15 (by decide) ?_
    refine j_istore C [(5, .int ((0 : Int32))), (0, .ref (G.1 + 84)), (1, .int v1), (2, .int v2), (3, .int v3), (4, .int v4)] dX12_wordOf_16 (by decide) rfl ?_
    refine j_sub (L' := [(0, .ref (G.1 + 84)), (1, .int v1), (2, .int v2), (3, .int v3), (4, .int v4), (5, .int ((0 : Int32)))]) [1, 2, 3, 4, 5, 0] rfl ?_
    exact k_Mod_wordOf_18 C O hm
theorem k_Mod_wordOf_5 {G : jG} {X : jX} (C : jC G X cX12_wordOf 8 RX12 1 70) {v1 : Int32} {v2 : Int32} {v3 : Int32} {v4 : Int32} {h : Hp} {out : Int32} (O : (O_Mod_wordOf G X h) out) (hm : lp (fun q => s_Mod_wordOf_5 q.1 q.2.1 q.2.2.1 q.2.2.2 h) (v1, v2, v3, v4) = some out) : J G X 5 [(0, .ref (G.1 + 84)), (1, .int v1), (2, .int v2), (3, .int v3), (4, .int v4)] [] h :=
  lp_ok (P := P_Mod_wordOf_5 G X h) (O := (O_Mod_wordOf G X h)) (fun q r hm O => w_Mod_wordOf_5 C O hm) hm O
theorem w_Mod_wordOf {G : jG} {X : jX} (C : jC G X cX12_wordOf 8 RX12 1 70) {v1 : Int32} {v2 : Int32} {h : Hp} {out : Int32} (O : (O_Mod_wordOf G X h) out) (hm : s_Mod_wordOf v1 v2 h = some out) : J G X 0 [(0, .ref (G.1 + 84)), (1, .int v1), (2, .int v2)] [] h := by
  unfold s_Mod_wordOf at hm
  refine j_iconst C 1 dX12_wordOf_0 (by decide) ?_
  refine j_istore_n C [(3, .int ((1 : Int32))), (0, .ref (G.1 + 84)), (1, .int v1), (2, .int v2)] dX12_wordOf_1 rfl (by decide) rfl ?_
  refine j_iconst C 0 dX12_wordOf_2 (by decide) ?_
  refine j_istore C [(4, .int ((0 : Int32))), (3, .int ((1 : Int32))), (0, .ref (G.1 + 84)), (1, .int v1), (2, .int v2)] dX12_wordOf_3 (by decide) rfl ?_
  refine j_sub (L' := [(0, .ref (G.1 + 84)), (1, .int v1), (2, .int v2), (3, .int ((1 : Int32))), (4, .int ((0 : Int32)))]) [2, 3, 4, 1, 0] rfl ?_
  exact k_Mod_wordOf_5 C O hm
theorem c_Mod_wordOf {G : jG} {l : Launch} {v1 : Int32} {v2 : Int32} {h : Hp} {out : Int32} (hm : s_Mod_wordOf v1 v2 h = some out) : mt G l yX12_wordOf cX12_wordOf 8 (some .int) 1 70 [.ref (G.1 + 84), .int v1, .int v2] h (some (.int out)) h :=
  mt_of (by decide) (Nat.le_of_ble_eq_true rfl) _ rfl (fun X I C O => w_Mod_wordOf C O hm)
noncomputable def s_Mod_splits_240 (v1 : Int32) (v3 : Int32) (v4 : Int32) (v5 : Int32) (s0 : Int32) (s1 : Int32) (h : Hp) : Option ((Int32 × Int32 × Int32 × Int32 × Hp) ⊕ ((Int32 × Int32 × Hp) ⊕ Hp)) :=
  ib s1 401 <| some (.inl (v1, v3, v4, (v5 + (1 : Int32)), (sI h 93 (ix s1) s0)))
noncomputable def s_Mod_splits_247 (v1 : Int32) (v4 : Int32) (h : Hp) : Option ((Int32 × Int32 × Hp) ⊕ Hp) :=
  some (.inl (v1, v4, (sI h 84 15 ((hI h 84 15) + ((1 : Int32))))))
noncomputable def s_Mod_splits_169 (v1 : Int32) (v3 : Int32) (v4 : Int32) (v5 : Int32) (h : Hp) : Option ((Int32 × Int32 × Int32 × Int32 × Hp) ⊕ ((Int32 × Int32 × Hp) ⊕ Hp)) :=
  if v4 ≤ v5 then
    inr (s_Mod_splits_247 v1 v4 h)
  else
    (s_Mod_isDigit v3 h).bind fun u1 => if u1 = 0 then
      inr (s_Mod_splits_247 v1 v4 h)
    else
      ib (hI h 84 15) 401 <| if (hI h 93 (ix (hI h 84 15))) ≤ ((1000000 : Int32)) then
        ib (hI h 84 15) 401 <| ib v5 400 <| s_Mod_splits_240 v1 v3 v4 v5 (((((10 : Int32)) * (hI h 93 (ix (hI h 84 15)))) + (hI h 90 (ix v5))) - ((48 : Int32))) (hI h 84 15) h
      else
        ib (hI h 84 15) 401 <| s_Mod_splits_240 v1 v3 v4 v5 (hI h 93 (ix (hI h 84 15))) (hI h 84 15) h
noncomputable def s_Mod_splits_165 (v1 : Int32) (v2 : Int32) (v3 : Int32) (v4 : Int32) (s0 : Int32) (s1 : Int32) (h : Hp) : Option ((Int32 × Int32 × Hp) ⊕ Hp) :=
  ib s1 401 <| lp (fun q => s_Mod_splits_169 q.1 q.2.1 q.2.2.1 q.2.2.2.1 q.2.2.2.2) (v1, v3, v4, v2, (sI h 92 (ix s1) s0))
noncomputable def s_Mod_splits_100 (v1 : Int32) (v2 : Int32) (v3 : Int32) (v4 : Int32) (h : Hp) : Option ((Int32 × Int32 × Hp) ⊕ Hp) :=
  ib (hI h 84 15) 401 <| lt (sI h 94 (ix (hI h 84 15)) v2) fun h1 => ib (hI h1 84 15) 401 <| lt (sI h1 93 (ix (hI h1 84 15)) ((0 : Int32))) fun h2 => (s_Mod_isSmall v3 h2).bind fun u3 => if u3 = 0 then
    (s_Mod_isDigit v3 h2).bind fun u4 => if u4 = 0 then
      s_Mod_splits_165 v1 v2 v3 v4 (((100 : Int32)) + (v3 &&& ((255 : Int32)))) (hI h2 84 15) h2
    else
      s_Mod_splits_165 v1 v2 v3 v4 ((50 : Int32)) (hI h2 84 15) h2
  else
    (s_Mod_wordOf v2 v4 h2).bind fun u5 => s_Mod_splits_165 v1 v2 v3 v4 u5 (hI h2 84 15) h2
noncomputable def s_Mod_splits_75 (v1 : Int32) (v2 : Int32) (v3 : Int32) (v4 : Int32) (h : Hp) : Option ((Int32 × Int32 × Int32 × Int32 × Hp) ⊕ ((Int32 × Int32 × Hp) ⊕ Hp)) :=
  if v1 ≤ v4 then
    inr (s_Mod_splits_100 v1 v2 v3 v4 h)
  else
    ib v4 400 <| (s_Mod_isDigit (hI h 90 (ix v4)) h).bind fun u1 => if u1 = 0 then
      inr (s_Mod_splits_100 v1 v2 v3 v4 h)
    else
      some (.inl (v1, v2, v3, (v4 + (1 : Int32)), h))
noncomputable def s_Mod_splits_68 (v1 : Int32) (v2 : Int32) (v3 : Int32) (v4 : Int32) (h : Hp) : Option ((Int32 × Int32 × Hp) ⊕ Hp) :=
  (s_Mod_isDigit v3 h).bind fun u1 => if u1 = 0 then
    s_Mod_splits_100 v1 v2 v3 v4 h
  else
    lp (fun q => s_Mod_splits_75 q.1 q.2.1 q.2.2.1 q.2.2.2.1 q.2.2.2.2) (v1, v2, v3, v4, h)
noncomputable def s_Mod_splits_43 (v1 : Int32) (v2 : Int32) (v3 : Int32) (v4 : Int32) (h : Hp) : Option ((Int32 × Int32 × Int32 × Int32 × Hp) ⊕ ((Int32 × Int32 × Hp) ⊕ Hp)) :=
  if v1 ≤ v4 then
    inr (s_Mod_splits_68 v1 v2 v3 v4 h)
  else
    ib v4 400 <| (s_Mod_isSmall (hI h 90 (ix v4)) h).bind fun u1 => if u1 = 0 then
      inr (s_Mod_splits_68 v1 v2 v3 v4 h)
    else
      some (.inl (v1, v2, v3, (v4 + (1 : Int32)), h))
noncomputable def s_Mod_splits_7 (v1 : Int32) (v2 : Int32) (h : Hp) : Option ((Int32 × Int32 × Hp) ⊕ Hp) :=
  if v1 ≤ v2 then
    ib (hI h 84 15) 401 <| lt (sI h 94 (ix (hI h 84 15)) v1) fun h1 => ib (hI h1 84 15) 401 <| lt (sI h1 92 (ix (hI h1 84 15)) ((0 : Int32))) fun h2 => ib (hI h2 84 15) 401 <| some (.inr (sI h2 93 (ix (hI h2 84 15)) ((0 : Int32))))
  else
    ib v2 400 <| if (hI h 90 (ix v2)) = ((32 : Int32)) then
      some (.inl (v1, (v2 + (1 : Int32)), h))
    else
      (s_Mod_isSmall (hI h 90 (ix v2)) h).bind fun u3 => if u3 = 0 then
        s_Mod_splits_68 v1 v2 (hI h 90 (ix v2)) (v2 + ((1 : Int32))) h
      else
        lp (fun q => s_Mod_splits_43 q.1 q.2.1 q.2.2.1 q.2.2.2.1 q.2.2.2.2) (v1, v2, (hI h 90 (ix v2)), (v2 + ((1 : Int32))), h)
noncomputable def s_Mod_splits (v1 : Int32) (h : Hp) : Option Hp :=
  lp (fun q => s_Mod_splits_7 q.1 q.2.1 q.2.2) (v1, ((0 : Int32)), (sI h 84 15 ((0 : Int32))))
def O_Mod_splits (G : jG) (X : jX) (out : Hp) : Prop := jO G X (none) none out
def P_Mod_splits_7 (G : jG) (X : jX) (q : Int32 × Int32 × Hp) : Prop := J G X 7 [(0, .ref (G.1 + 84)), (1, .int q.1), (2, .int q.2.1)] [] q.2.2
def O_Mod_splits_7 (G : jG) (X : jX) (t : ((Int32 × Int32 × Hp) ⊕ Hp)) : Prop := Sum.elim (P_Mod_splits_7 G X) (O_Mod_splits G X) t
def P_Mod_splits_43 (G : jG) (X : jX) (q : Int32 × Int32 × Int32 × Int32 × Hp) : Prop := J G X 43 [(0, .ref (G.1 + 84)), (1, .int q.1), (2, .int q.2.1), (3, .int q.2.2.1), (4, .int q.2.2.2.1)] [] q.2.2.2.2
def O_Mod_splits_43 (G : jG) (X : jX) (t : ((Int32 × Int32 × Int32 × Int32 × Hp) ⊕ ((Int32 × Int32 × Hp) ⊕ Hp))) : Prop := Sum.elim (P_Mod_splits_43 G X) (O_Mod_splits_7 G X) t
def P_Mod_splits_75 (G : jG) (X : jX) (q : Int32 × Int32 × Int32 × Int32 × Hp) : Prop := J G X 75 [(0, .ref (G.1 + 84)), (1, .int q.1), (2, .int q.2.1), (3, .int q.2.2.1), (4, .int q.2.2.2.1)] [] q.2.2.2.2
def O_Mod_splits_75 (G : jG) (X : jX) (t : ((Int32 × Int32 × Int32 × Int32 × Hp) ⊕ ((Int32 × Int32 × Hp) ⊕ Hp))) : Prop := Sum.elim (P_Mod_splits_75 G X) (O_Mod_splits_7 G X) t
def P_Mod_splits_169 (G : jG) (X : jX) (q : Int32 × Int32 × Int32 × Int32 × Hp) : Prop := J G X 169 [(0, .ref (G.1 + 84)), (1, .int q.1), (3, .int q.2.1), (4, .int q.2.2.1), (5, .int q.2.2.2.1)] [] q.2.2.2.2
def O_Mod_splits_169 (G : jG) (X : jX) (t : ((Int32 × Int32 × Int32 × Int32 × Hp) ⊕ ((Int32 × Int32 × Hp) ⊕ Hp))) : Prop := Sum.elim (P_Mod_splits_169 G X) (O_Mod_splits_7 G X) t
theorem w_Mod_splits_240 {G : jG} {X : jX} (C : jC G X cX12_splits 6 RX12 2 97) {v1 : Int32} {v3 : Int32} {v4 : Int32} {v5 : Int32} {s0 : Int32} {s1 : Int32} {h : Hp} {out : ((Int32 × Int32 × Int32 × Int32 × Hp) ⊕ ((Int32 × Int32 × Hp) ⊕ Hp))} (O : (O_Mod_splits_169 G X) out) (hm : s_Mod_splits_240 v1 v3 v4 v5 s0 s1 h = some out) : J G X 240 [(0, .ref (G.1 + 84)), (1, .int v1), (3, .int v3), (4, .int v4), (5, .int v5)] [.int s0, .int s1, .ref (G.1 + 93)] h := by
  unfold s_Mod_splits_240 at hm
  refine j_iast C n_93 hm dX12_splits_240 (fun hm => ?_)
  refine j_iinc C 4 [(5, .int (v5 + (1 : Int32))), (0, .ref (G.1 + 84)), (1, .int v1), (3, .int v3), (4, .int v4)] dX12_splits_241 rfl (add_lit (by decide)) (by decide) rfl ?_
  refine j_goto C 169 dX12_splits_244 (by decide) ?_
  obtain rfl := Option.some.inj hm
  refine j_sub (L' := [(0, .ref (G.1 + 84)), (1, .int v1), (3, .int v3), (4, .int v4), (5, .int (v5 + (1 : Int32)))]) [1, 2, 3, 4, 0] rfl ?_
  exact O
theorem w_Mod_splits_247 {G : jG} {X : jX} (C : jC G X cX12_splits 6 RX12 2 97) {v1 : Int32} {v4 : Int32} {h : Hp} {out : ((Int32 × Int32 × Hp) ⊕ Hp)} (O : (O_Mod_splits_7 G X) out) (hm : s_Mod_splits_247 v1 v4 h = some out) : J G X 247 [(0, .ref (G.1 + 84)), (1, .int v1), (4, .int v4)] [] h := by
  unfold s_Mod_splits_247 at hm
  refine j_aload_n C 0 dX12_splits_247 rfl rfl ?_
  refine j_dup C dX12_splits_248 rfl ?_
  refine j_gI C f_X12_145 n_84 dX12_splits_249 ?_
  refine j_iconst C 1 dX12_splits_252 (by decide) ?_
  refine j_iadd C dX12_splits_253 ?_
  refine j_pI C f_X12_145 n_84 dX12_splits_254 ?_
  refine j_iload C 2 dX12_splits_257 rfl ?_
  refine j_istore_n C [(2, .int v4), (0, .ref (G.1 + 84)), (1, .int v1), (4, .int v4)] dX12_splits_259 rfl (by decide) rfl ?_
  refine j_goto C 7 dX12_splits_260 (by decide) ?_
  obtain rfl := Option.some.inj hm
  refine j_sub (L' := [(0, .ref (G.1 + 84)), (1, .int v1), (2, .int v4)]) [1, 2, 0] rfl ?_
  exact O
theorem w_Mod_splits_169 {G : jG} {X : jX} (C : jC G X cX12_splits 6 RX12 2 97) {v1 : Int32} {v3 : Int32} {v4 : Int32} {v5 : Int32} {h : Hp} {out : ((Int32 × Int32 × Int32 × Int32 × Hp) ⊕ ((Int32 × Int32 × Hp) ⊕ Hp))} (O : (O_Mod_splits_169 G X) out) (hm : s_Mod_splits_169 v1 v3 v4 v5 h = some out) : J G X 169 [(0, .ref (G.1 + 84)), (1, .int v1), (3, .int v3), (4, .int v4), (5, .int v5)] [] h := by
  unfold s_Mod_splits_169 at hm
  refine j_iload C 4 dX12_splits_169 rfl ?_
  refine j_iload C 3 dX12_splits_171 rfl ?_
  refine j_if_icmpge C 247 dX12_splits_173 (by decide) hm (fun hm => ?_) (fun hm => ?_)
  · obtain ⟨o_0, hm_0, rfl⟩ := inr_inv hm
    refine j_sub (L' := [(0, .ref (G.1 + 84)), (1, .int v1), (4, .int v4)]) [0, 1, 3] rfl ?_
    exact w_Mod_splits_247 C O hm_0
  · refine j_iload_n C 2 dX12_splits_176 rfl rfl ?_
    refine j_cS C l_X12_151 [.int v3] [] (fun u1 => some (.int u1)) (fun _ => h) (fun u1 => [.int u1]) hm (fun l u hu => c_Mod_isDigit hu) rfl (Nat.le_of_ble_eq_true rfl) rfl (Nat.le_of_ble_eq_true rfl) (Nat.le_of_ble_eq_true rfl) (fun _ => rfl) dX12_splits_177 (fun u1 hm => ?_)
    refine j_ifeq C 247 dX12_splits_180 (by decide) hm (fun hm => ?_) (fun hm => ?_)
    · obtain ⟨o_0, hm_0, rfl⟩ := inr_inv hm
      refine j_sub (L' := [(0, .ref (G.1 + 84)), (1, .int v1), (4, .int v4)]) [0, 1, 3] rfl ?_
      exact w_Mod_splits_247 C O hm_0
    · refine j_aload_n C 0 dX12_splits_183 rfl rfl ?_
      refine j_gS C f_X12_46 n_84 q_84_13 dX12_splits_184 ?_
      refine j_aload_n C 0 dX12_splits_187 rfl rfl ?_
      refine j_gI C f_X12_145 n_84 dX12_splits_188 ?_
      refine j_aload_n C 0 dX12_splits_191 rfl rfl ?_
      refine j_gS C f_X12_46 n_84 q_84_13 dX12_splits_192 ?_
      refine j_aload_n C 0 dX12_splits_195 rfl rfl ?_
      refine j_gI C f_X12_145 n_84 dX12_splits_196 ?_
      refine j_iald C n_93 hm dX12_splits_199 (fun hm => ?_)
      refine j_ldc C wd_1564 dX12_splits_200 ?_
      refine j_if_icmple C 217 dX12_splits_202 (by decide) hm (fun hm => ?_) (fun hm => ?_)
      · refine j_bipush C 10 dX12_splits_217 (by decide) ?_
        refine j_aload_n C 0 dX12_splits_219 rfl rfl ?_
        refine j_gS C f_X12_46 n_84 q_84_13 dX12_splits_220 ?_
        refine j_aload_n C 0 dX12_splits_223 rfl rfl ?_
        refine j_gI C f_X12_145 n_84 dX12_splits_224 ?_
        refine j_iald C n_93 hm dX12_splits_227 (fun hm => ?_)
        refine j_imul C dX12_splits_228 ?_
        refine j_aload_n C 0 dX12_splits_229 rfl rfl ?_
        refine j_gS C f_X12_34 n_84 q_84_8 dX12_splits_230 ?_
        refine j_iload C 4 dX12_splits_233 rfl ?_
        refine j_bald C n_90 hm dX12_splits_235 (fun hm => ?_)
        refine j_iadd C dX12_splits_236 ?_
        refine j_bipush C 48 dX12_splits_237 (by decide) ?_
        refine j_isub C dX12_splits_239 ?_
        refine j_sub (L' := [(0, .ref (G.1 + 84)), (1, .int v1), (3, .int v3), (4, .int v4), (5, .int v5)]) [0, 1, 2, 3, 4] rfl ?_
        exact w_Mod_splits_240 C O hm
      · refine j_aload_n C 0 dX12_splits_205 rfl rfl ?_
        refine j_gS C f_X12_46 n_84 q_84_13 dX12_splits_206 ?_
        refine j_aload_n C 0 dX12_splits_209 rfl rfl ?_
        refine j_gI C f_X12_145 n_84 dX12_splits_210 ?_
        refine j_iald C n_93 hm dX12_splits_213 (fun hm => ?_)
        refine j_goto C 240 dX12_splits_214 (by decide) ?_
        refine j_sub (L' := [(0, .ref (G.1 + 84)), (1, .int v1), (3, .int v3), (4, .int v4), (5, .int v5)]) [0, 1, 2, 3, 4] rfl ?_
        exact w_Mod_splits_240 C O hm
theorem k_Mod_splits_169 {G : jG} {X : jX} (C : jC G X cX12_splits 6 RX12 2 97) {v1 : Int32} {v3 : Int32} {v4 : Int32} {v5 : Int32} {h : Hp} {out : ((Int32 × Int32 × Hp) ⊕ Hp)} (O : (O_Mod_splits_7 G X) out) (hm : lp (fun q => s_Mod_splits_169 q.1 q.2.1 q.2.2.1 q.2.2.2.1 q.2.2.2.2) (v1, v3, v4, v5, h) = some out) : J G X 169 [(0, .ref (G.1 + 84)), (1, .int v1), (3, .int v3), (4, .int v4), (5, .int v5)] [] h :=
  lp_ok (P := P_Mod_splits_169 G X) (O := (O_Mod_splits_7 G X)) (fun q r hm O => w_Mod_splits_169 C O hm) hm O
theorem w_Mod_splits_165 {G : jG} {X : jX} (C : jC G X cX12_splits 6 RX12 2 97) {v1 : Int32} {v2 : Int32} {v3 : Int32} {v4 : Int32} {s0 : Int32} {s1 : Int32} {h : Hp} {out : ((Int32 × Int32 × Hp) ⊕ Hp)} (O : (O_Mod_splits_7 G X) out) (hm : s_Mod_splits_165 v1 v2 v3 v4 s0 s1 h = some out) : J G X 165 [(0, .ref (G.1 + 84)), (1, .int v1), (2, .int v2), (3, .int v3), (4, .int v4)] [.int s0, .int s1, .ref (G.1 + 92)] h := by
  unfold s_Mod_splits_165 at hm
  refine j_iast C n_92 hm dX12_splits_165 (fun hm => ?_)
  refine j_iload_n C 2 dX12_splits_166 rfl rfl ?_
  refine j_istore C [(5, .int v2), (0, .ref (G.1 + 84)), (1, .int v1), (2, .int v2), (3, .int v3), (4, .int v4)] dX12_splits_167 (by decide) rfl ?_
  refine j_sub (L' := [(0, .ref (G.1 + 84)), (1, .int v1), (3, .int v3), (4, .int v4), (5, .int v2)]) [1, 2, 4, 5, 0] rfl ?_
  exact k_Mod_splits_169 C O hm
theorem w_Mod_splits_100 {G : jG} {X : jX} (C : jC G X cX12_splits 6 RX12 2 97) {v1 : Int32} {v2 : Int32} {v3 : Int32} {v4 : Int32} {h : Hp} {out : ((Int32 × Int32 × Hp) ⊕ Hp)} (O : (O_Mod_splits_7 G X) out) (hm : s_Mod_splits_100 v1 v2 v3 v4 h = some out) : J G X 100 [(0, .ref (G.1 + 84)), (1, .int v1), (2, .int v2), (3, .int v3), (4, .int v4)] [] h := by
  unfold s_Mod_splits_100 at hm
  refine j_aload_n C 0 dX12_splits_100 rfl rfl ?_
  refine j_gS C f_X12_49 n_84 q_84_14 dX12_splits_101 ?_
  refine j_aload_n C 0 dX12_splits_104 rfl rfl ?_
  refine j_gI C f_X12_145 n_84 dX12_splits_105 ?_
  refine j_iload_n C 2 dX12_splits_108 rfl rfl ?_
  refine j_iast C n_94 hm dX12_splits_109 (fun hm => ?_)
  refine j_aload_n C 0 dX12_splits_110 rfl rfl ?_
  refine j_nmH hm (fun h1 hm => ?_)
  refine j_gS C f_X12_46 n_84 q_84_13 dX12_splits_111 ?_
  refine j_aload_n C 0 dX12_splits_114 rfl rfl ?_
  refine j_gI C f_X12_145 n_84 dX12_splits_115 ?_
  refine j_iconst C 0 dX12_splits_118 (by decide) ?_
  refine j_iast C n_93 hm dX12_splits_119 (fun hm => ?_)
  refine j_aload_n C 0 dX12_splits_120 rfl rfl ?_
  refine j_nmH hm (fun h2 hm => ?_)
  refine j_gS C f_X12_43 n_84 q_84_12 dX12_splits_121 ?_
  refine j_aload_n C 0 dX12_splits_124 rfl rfl ?_
  refine j_gI C f_X12_145 n_84 dX12_splits_125 ?_
  refine j_iload_n C 3 dX12_splits_128 rfl rfl ?_
  refine j_cS C l_X12_148 [.int v3] [.int (hI h2 84 15), .ref (G.1 + 92)] (fun u3 => some (.int u3)) (fun _ => h2) (fun u3 => [.int u3, .int (hI h2 84 15), .ref (G.1 + 92)]) hm (fun l u hu => c_Mod_isSmall hu) rfl (Nat.le_of_ble_eq_true rfl) rfl (Nat.le_of_ble_eq_true rfl) (Nat.le_of_ble_eq_true rfl) (fun _ => rfl) dX12_splits_129 (fun u3 hm => ?_)
  refine j_ifeq C 145 dX12_splits_132 (by decide) hm (fun hm => ?_) (fun hm => ?_)
  · refine j_iload_n C 3 dX12_splits_145 rfl rfl ?_
    refine j_cS C l_X12_151 [.int v3] [.int (hI h2 84 15), .ref (G.1 + 92)] (fun u4 => some (.int u4)) (fun _ => h2) (fun u4 => [.int u4, .int (hI h2 84 15), .ref (G.1 + 92)]) hm (fun l u hu => c_Mod_isDigit hu) rfl (Nat.le_of_ble_eq_true rfl) rfl (Nat.le_of_ble_eq_true rfl) (Nat.le_of_ble_eq_true rfl) (fun _ => rfl) dX12_splits_146 (fun u4 hm => ?_)
    refine j_ifeq C 157 dX12_splits_149 (by decide) hm (fun hm => ?_) (fun hm => ?_)
    · refine j_bipush C 100 dX12_splits_157 (by decide) ?_
      refine j_iload_n C 3 dX12_splits_159 rfl rfl ?_
      refine j_sipush C 255 dX12_splits_160 (by decide) ?_
      refine j_iand C dX12_splits_163 ?_
      refine j_iadd C dX12_splits_164 ?_
      refine j_sub (L' := [(0, .ref (G.1 + 84)), (1, .int v1), (2, .int v2), (3, .int v3), (4, .int v4)]) [0, 1, 2, 3, 4] rfl ?_
      exact w_Mod_splits_165 C O hm
    · refine j_bipush C 50 dX12_splits_152 (by decide) ?_
      refine j_goto C 165 dX12_splits_154 (by decide) ?_
      refine j_sub (L' := [(0, .ref (G.1 + 84)), (1, .int v1), (2, .int v2), (3, .int v3), (4, .int v4)]) [0, 1, 2, 3, 4] rfl ?_
      exact w_Mod_splits_165 C O hm
  · refine j_aload_n C 0 dX12_splits_135 rfl rfl ?_
    refine j_iload_n C 2 dX12_splits_136 rfl rfl ?_
    refine j_iload C 4 dX12_splits_137 rfl ?_
    refine j_cV C l_X12_154 [.int v2, .int v4] [.int (hI h2 84 15), .ref (G.1 + 92)] (fun u5 => some (.int u5)) (fun _ => h2) (fun u5 => [.int u5, .int (hI h2 84 15), .ref (G.1 + 92)]) n_84 hm (fun l u hu => c_Mod_wordOf hu) rfl (Nat.le_of_ble_eq_true rfl) rfl (Nat.le_of_ble_eq_true rfl) (Nat.le_of_ble_eq_true rfl) (fun _ => rfl) dX12_splits_139 (fun u5 hm => ?_)
    refine j_goto C 165 dX12_splits_142 (by decide) ?_
    refine j_sub (L' := [(0, .ref (G.1 + 84)), (1, .int v1), (2, .int v2), (3, .int v3), (4, .int v4)]) [0, 1, 2, 3, 4] rfl ?_
    exact w_Mod_splits_165 C O hm
theorem w_Mod_splits_75 {G : jG} {X : jX} (C : jC G X cX12_splits 6 RX12 2 97) {v1 : Int32} {v2 : Int32} {v3 : Int32} {v4 : Int32} {h : Hp} {out : ((Int32 × Int32 × Int32 × Int32 × Hp) ⊕ ((Int32 × Int32 × Hp) ⊕ Hp))} (O : (O_Mod_splits_75 G X) out) (hm : s_Mod_splits_75 v1 v2 v3 v4 h = some out) : J G X 75 [(0, .ref (G.1 + 84)), (1, .int v1), (2, .int v2), (3, .int v3), (4, .int v4)] [] h := by
  unfold s_Mod_splits_75 at hm
  refine j_iload C 4 dX12_splits_75 rfl ?_
  refine j_iload_n C 1 dX12_splits_77 rfl rfl ?_
  refine j_if_icmpge C 100 dX12_splits_78 (by decide) hm (fun hm => ?_) (fun hm => ?_)
  · obtain ⟨o_0, hm_0, rfl⟩ := inr_inv hm
    refine j_sub (L' := [(0, .ref (G.1 + 84)), (1, .int v1), (2, .int v2), (3, .int v3), (4, .int v4)]) [0, 1, 2, 3, 4] rfl ?_
    exact w_Mod_splits_100 C O hm_0
  · refine j_aload_n C 0 dX12_splits_81 rfl rfl ?_
    refine j_gS C f_X12_34 n_84 q_84_8 dX12_splits_82 ?_
    refine j_iload C 4 dX12_splits_85 rfl ?_
    refine j_bald C n_90 hm dX12_splits_87 (fun hm => ?_)
    refine j_cS C l_X12_151 [.int (hI h 90 (ix v4))] [] (fun u1 => some (.int u1)) (fun _ => h) (fun u1 => [.int u1]) hm (fun l u hu => c_Mod_isDigit hu) rfl (Nat.le_of_ble_eq_true rfl) rfl (Nat.le_of_ble_eq_true rfl) (Nat.le_of_ble_eq_true rfl) (fun _ => rfl) dX12_splits_88 (fun u1 hm => ?_)
    refine j_ifeq C 100 dX12_splits_91 (by decide) hm (fun hm => ?_) (fun hm => ?_)
    · obtain ⟨o_0, hm_0, rfl⟩ := inr_inv hm
      refine j_sub (L' := [(0, .ref (G.1 + 84)), (1, .int v1), (2, .int v2), (3, .int v3), (4, .int v4)]) [0, 1, 2, 3, 4] rfl ?_
      exact w_Mod_splits_100 C O hm_0
    · refine j_iinc C 4 [(4, .int (v4 + (1 : Int32))), (0, .ref (G.1 + 84)), (1, .int v1), (2, .int v2), (3, .int v3)] dX12_splits_94 rfl (add_lit (by decide)) (by decide) rfl ?_
      refine j_goto C 75 dX12_splits_97 (by decide) ?_
      obtain rfl := Option.some.inj hm
      refine j_sub (L' := [(0, .ref (G.1 + 84)), (1, .int v1), (2, .int v2), (3, .int v3), (4, .int (v4 + (1 : Int32)))]) [1, 2, 3, 4, 0] rfl ?_
      exact O
theorem k_Mod_splits_75 {G : jG} {X : jX} (C : jC G X cX12_splits 6 RX12 2 97) {v1 : Int32} {v2 : Int32} {v3 : Int32} {v4 : Int32} {h : Hp} {out : ((Int32 × Int32 × Hp) ⊕ Hp)} (O : (O_Mod_splits_7 G X) out) (hm : lp (fun q => s_Mod_splits_75 q.1 q.2.1 q.2.2.1 q.2.2.2.1 q.2.2.2.2) (v1, v2, v3, v4, h) = some out) : J G X 75 [(0, .ref (G.1 + 84)), (1, .int v1), (2, .int v2), (3, .int v3), (4, .int v4)] [] h :=
  lp_ok (P := P_Mod_splits_75 G X) (O := (O_Mod_splits_7 G X)) (fun q r hm O => w_Mod_splits_75 C O hm) hm O
theorem w_Mod_splits_68 {G : jG} {X : jX} (C : jC G X cX12_splits 6 RX12 2 97) {v1 : Int32} {v2 : Int32} {v3 : Int32} {v4 : Int32} {h : Hp} {out : ((Int32 × Int32 × Hp) ⊕ Hp)} (O : (O_Mod_splits_7 G X) out) (hm : s_Mod_splits_68 v1 v2 v3 v4 h = some out) : J G X 68 [(0, .ref (G.1 + 84)), (1, .int v1), (2, .int v2), (3, .int v3), (4, .int v4)] [] h := by
  unfold s_Mod_splits_68 at hm
  refine j_iload_n C 3 dX12_splits_68 rfl rfl ?_
  refine j_cS C l_X12_151 [.int v3] [] (fun u1 => some (.int u1)) (fun _ => h) (fun u1 => [.int u1]) hm (fun l u hu => c_Mod_isDigit hu) rfl (Nat.le_of_ble_eq_true rfl) rfl (Nat.le_of_ble_eq_true rfl) (Nat.le_of_ble_eq_true rfl) (fun _ => rfl) dX12_splits_69 (fun u1 hm => ?_)
  refine j_ifeq C 100 dX12_splits_72 (by decide) hm (fun hm => ?_) (fun hm => ?_)
  · refine j_sub (L' := [(0, .ref (G.1 + 84)), (1, .int v1), (2, .int v2), (3, .int v3), (4, .int v4)]) [0, 1, 2, 3, 4] rfl ?_
    exact w_Mod_splits_100 C O hm
  · refine j_sub (L' := [(0, .ref (G.1 + 84)), (1, .int v1), (2, .int v2), (3, .int v3), (4, .int v4)]) [0, 1, 2, 3, 4] rfl ?_
    exact k_Mod_splits_75 C O hm
theorem w_Mod_splits_43 {G : jG} {X : jX} (C : jC G X cX12_splits 6 RX12 2 97) {v1 : Int32} {v2 : Int32} {v3 : Int32} {v4 : Int32} {h : Hp} {out : ((Int32 × Int32 × Int32 × Int32 × Hp) ⊕ ((Int32 × Int32 × Hp) ⊕ Hp))} (O : (O_Mod_splits_43 G X) out) (hm : s_Mod_splits_43 v1 v2 v3 v4 h = some out) : J G X 43 [(0, .ref (G.1 + 84)), (1, .int v1), (2, .int v2), (3, .int v3), (4, .int v4)] [] h := by
  unfold s_Mod_splits_43 at hm
  refine j_iload C 4 dX12_splits_43 rfl ?_
  refine j_iload_n C 1 dX12_splits_45 rfl rfl ?_
  refine j_if_icmpge C 68 dX12_splits_46 (by decide) hm (fun hm => ?_) (fun hm => ?_)
  · obtain ⟨o_0, hm_0, rfl⟩ := inr_inv hm
    refine j_sub (L' := [(0, .ref (G.1 + 84)), (1, .int v1), (2, .int v2), (3, .int v3), (4, .int v4)]) [0, 1, 2, 3, 4] rfl ?_
    exact w_Mod_splits_68 C O hm_0
  · refine j_aload_n C 0 dX12_splits_49 rfl rfl ?_
    refine j_gS C f_X12_34 n_84 q_84_8 dX12_splits_50 ?_
    refine j_iload C 4 dX12_splits_53 rfl ?_
    refine j_bald C n_90 hm dX12_splits_55 (fun hm => ?_)
    refine j_cS C l_X12_148 [.int (hI h 90 (ix v4))] [] (fun u1 => some (.int u1)) (fun _ => h) (fun u1 => [.int u1]) hm (fun l u hu => c_Mod_isSmall hu) rfl (Nat.le_of_ble_eq_true rfl) rfl (Nat.le_of_ble_eq_true rfl) (Nat.le_of_ble_eq_true rfl) (fun _ => rfl) dX12_splits_56 (fun u1 hm => ?_)
    refine j_ifeq C 68 dX12_splits_59 (by decide) hm (fun hm => ?_) (fun hm => ?_)
    · obtain ⟨o_0, hm_0, rfl⟩ := inr_inv hm
      refine j_sub (L' := [(0, .ref (G.1 + 84)), (1, .int v1), (2, .int v2), (3, .int v3), (4, .int v4)]) [0, 1, 2, 3, 4] rfl ?_
      exact w_Mod_splits_68 C O hm_0
    · refine j_iinc C 4 [(4, .int (v4 + (1 : Int32))), (0, .ref (G.1 + 84)), (1, .int v1), (2, .int v2), (3, .int v3)] dX12_splits_62 rfl (add_lit (by decide)) (by decide) rfl ?_
      refine j_goto C 43 dX12_splits_65 (by decide) ?_
      obtain rfl := Option.some.inj hm
      refine j_sub (L' := [(0, .ref (G.1 + 84)), (1, .int v1), (2, .int v2), (3, .int v3), (4, .int (v4 + (1 : Int32)))]) [1, 2, 3, 4, 0] rfl ?_
      exact O
theorem k_Mod_splits_43 {G : jG} {X : jX} (C : jC G X cX12_splits 6 RX12 2 97) {v1 : Int32} {v2 : Int32} {v3 : Int32} {v4 : Int32} {h : Hp} {out : ((Int32 × Int32 × Hp) ⊕ Hp)} (O : (O_Mod_splits_7 G X) out) (hm : lp (fun q => s_Mod_splits_43 q.1 q.2.1 q.2.2.1 q.2.2.2.1 q.2.2.2.2) (v1, v2, v3, v4, h) = some out) : J G X 43 [(0, .ref (G.1 + 84)), (1, .int v1), (2, .int v2), (3, .int v3), (4, .int v4)] [] h :=
  lp_ok (P := P_Mod_splits_43 G X) (O := (O_Mod_splits_7 G X)) (fun q r hm O => w_Mod_splits_43 C O hm) hm O
theorem w_Mod_splits_7 {G : jG} {X : jX} (C : jC G X cX12_splits 6 RX12 2 97) {v1 : Int32} {v2 : Int32} {h : Hp} {out : ((Int32 × Int32 × Hp) ⊕ Hp)} (O : (O_Mod_splits_7 G X) out) (hm : s_Mod_splits_7 v1 v2 h = some out) : J G X 7 [(0, .ref (G.1 + 84)), (1, .int v1), (2, .int v2)] [] h := by
  unfold s_Mod_splits_7 at hm
  refine j_iload_n C 2 dX12_splits_7 rfl rfl ?_
  refine j_iload_n C 1 dX12_splits_8 rfl rfl ?_
  refine j_if_icmpge C 263 dX12_splits_9 (by decide) hm (fun hm => ?_) (fun hm => ?_)
  · refine j_aload_n C 0 dX12_splits_263 rfl rfl ?_
    refine j_gS C f_X12_49 n_84 q_84_14 dX12_splits_264 ?_
    refine j_aload_n C 0 dX12_splits_267 rfl rfl ?_
    refine j_gI C f_X12_145 n_84 dX12_splits_268 ?_
    refine j_iload_n C 1 dX12_splits_271 rfl rfl ?_
    refine j_iast C n_94 hm dX12_splits_272 (fun hm => ?_)
    refine j_aload_n C 0 dX12_splits_273 rfl rfl ?_
    refine j_nmH hm (fun h1 hm => ?_)
    refine j_gS C f_X12_43 n_84 q_84_12 dX12_splits_274 ?_
    refine j_aload_n C 0 dX12_splits_277 rfl rfl ?_
    refine j_gI C f_X12_145 n_84 dX12_splits_278 ?_
    refine j_iconst C 0 dX12_splits_281 (by decide) ?_
    refine j_iast C n_92 hm dX12_splits_282 (fun hm => ?_)
    refine j_aload_n C 0 dX12_splits_283 rfl rfl ?_
    refine j_nmH hm (fun h2 hm => ?_)
    refine j_gS C f_X12_46 n_84 q_84_13 dX12_splits_284 ?_
    refine j_aload_n C 0 dX12_splits_287 rfl rfl ?_
    refine j_gI C f_X12_145 n_84 dX12_splits_288 ?_
    refine j_iconst C 0 dX12_splits_291 (by decide) ?_
    refine j_iast C n_93 hm dX12_splits_292 (fun hm => ?_)
    obtain rfl := Option.some.inj hm
    exact j_vret C O dX12_splits_293
  · refine j_aload_n C 0 dX12_splits_12 rfl rfl ?_
    refine j_gS C f_X12_34 n_84 q_84_8 dX12_splits_13 ?_
    refine j_iload_n C 2 dX12_splits_16 rfl rfl ?_
    refine j_bald C n_90 hm dX12_splits_17 (fun hm => ?_)
    refine j_istore_n C [(3, .int (hI h 90 (ix v2))), (0, .ref (G.1 + 84)), (1, .int v1), (2, .int v2)] dX12_splits_18 rfl (by decide) rfl ?_
    refine j_iload_n C 0 dX12_splits_19 rfl rfl ?_
    refine j_bipush C 32 dX12_splits_20 (by decide) ?_
    refine j_if_icmpne C 31 dX12_splits_22 (by decide) hm (fun hm => ?_) (fun hm => ?_)
    · refine j_iinc C 3 [(2, .int (v2 + (1 : Int32))), (3, .int (hI h 90 (ix v2))), (0, .ref (G.1 + 84)), (1, .int v1)] dX12_splits_25 rfl (add_lit (by decide)) (by decide) rfl ?_
      refine j_goto C 7 dX12_splits_28 (by decide) ?_
      obtain rfl := Option.some.inj hm
      refine j_sub (L' := [(0, .ref (G.1 + 84)), (1, .int v1), (2, .int (v2 + (1 : Int32)))]) [2, 3, 0] rfl ?_
      exact O
    · refine j_iload_n C 3 dX12_splits_31 rfl rfl ?_
      refine j_iconst C 1 dX12_splits_32 (by decide) ?_
      refine j_iadd C dX12_splits_33 ?_
      refine j_istore C [(4, .int (v2 + ((1 : Int32)))), (3, .int (hI h 90 (ix v2))), (0, .ref (G.1 + 84)), (1, .int v1), (2, .int v2)] dX12_splits_34 (by decide) rfl ?_
      refine j_iload_n C 1 dX12_splits_36 rfl rfl ?_
      refine j_cS C l_X12_148 [.int (hI h 90 (ix v2))] [] (fun u3 => some (.int u3)) (fun _ => h) (fun u3 => [.int u3]) hm (fun l u hu => c_Mod_isSmall hu) rfl (Nat.le_of_ble_eq_true rfl) rfl (Nat.le_of_ble_eq_true rfl) (Nat.le_of_ble_eq_true rfl) (fun _ => rfl) dX12_splits_37 (fun u3 hm => ?_)
      refine j_ifeq C 68 dX12_splits_40 (by decide) hm (fun hm => ?_) (fun hm => ?_)
      · refine j_sub (L' := [(0, .ref (G.1 + 84)), (1, .int v1), (2, .int v2), (3, .int (hI h 90 (ix v2))), (4, .int (v2 + ((1 : Int32))))]) [2, 3, 4, 1, 0] rfl ?_
        exact w_Mod_splits_68 C O hm
      · refine j_sub (L' := [(0, .ref (G.1 + 84)), (1, .int v1), (2, .int v2), (3, .int (hI h 90 (ix v2))), (4, .int (v2 + ((1 : Int32))))]) [2, 3, 4, 1, 0] rfl ?_
        exact k_Mod_splits_43 C O hm
theorem k_Mod_splits_7 {G : jG} {X : jX} (C : jC G X cX12_splits 6 RX12 2 97) {v1 : Int32} {v2 : Int32} {h : Hp} {out : Hp} (O : (O_Mod_splits G X) out) (hm : lp (fun q => s_Mod_splits_7 q.1 q.2.1 q.2.2) (v1, v2, h) = some out) : J G X 7 [(0, .ref (G.1 + 84)), (1, .int v1), (2, .int v2)] [] h :=
  lp_ok (P := P_Mod_splits_7 G X) (O := (O_Mod_splits G X)) (fun q r hm O => w_Mod_splits_7 C O hm) hm O
theorem w_Mod_splits {G : jG} {X : jX} (C : jC G X cX12_splits 6 RX12 2 97) {v1 : Int32} {h : Hp} {out : Hp} (O : (O_Mod_splits G X) out) (hm : s_Mod_splits v1 h = some out) : J G X 0 [(0, .ref (G.1 + 84)), (1, .int v1)] [] h := by
  unfold s_Mod_splits at hm
  refine j_aload_n C 0 dX12_splits_0 rfl rfl ?_
  refine j_iconst C 0 dX12_splits_1 (by decide) ?_
  refine j_pI C f_X12_145 n_84 dX12_splits_2 ?_
  refine j_iconst C 0 dX12_splits_5 (by decide) ?_
  refine j_istore_n C [(2, .int ((0 : Int32))), (0, .ref (G.1 + 84)), (1, .int v1)] dX12_splits_6 rfl (by decide) rfl ?_
  refine j_sub (L' := [(0, .ref (G.1 + 84)), (1, .int v1), (2, .int ((0 : Int32)))]) [1, 2, 0] rfl ?_
  exact k_Mod_splits_7 C O hm
theorem c_Mod_splits {G : jG} {l : Launch} {v1 : Int32} {h : Hp} {out : Hp} (hm : s_Mod_splits v1 h = some out) : mt G l yX12_splits cX12_splits 6 (none) 2 97 [.ref (G.1 + 84), .int v1] h none out :=
  mt_of (by decide) (Nat.le_of_ble_eq_true rfl) _ rfl (fun X I C O => w_Mod_splits C O hm)
noncomputable def s_Mod_reads_67 (v1 : Int32) (h : Hp) : Option ((Int32 × Hp) ⊕ (Int32 × Hp)) :=
  some (.inl ((v1 + (1 : Int32)), h))
noncomputable def s_Mod_reads_56 (v1 : Int32) (h : Hp) : Option ((Int32 × Hp) ⊕ (Int32 × Hp)) :=
  (s_Mod_fine h).bind fun u1 => if u1 = 0 then
    s_Mod_reads_67 v1 h
  else
    (s_Mod_readClause h).bind fun u2 => s_Mod_reads_67 v1 u2
noncomputable def s_Mod_reads_95 (h : Hp) : Option (Int32 × Hp) :=
  (s_Mod_fine (sI h 84 11 (hI h 84 18))).bind fun u1 => bz u1 <| some (u1, sI h 84 11 (hI h 84 18))
noncomputable def s_Mod_reads_34 (v1 : Int32) (h : Hp) : Option ((Int32 × Hp) ⊕ (Int32 × Hp)) :=
  (s_Mod_sign ((59 : Int32)) h).bind fun u1 => (s_Mod_takes0 u1 h).bind fun u2 => if u2.1 = 0 then
    (s_Mod_fine u2.2).bind fun u3 => if u3 = 0 then
      inr (s_Mod_reads_95 u2.2)
    else
      if (hI u2.2 84 15) ≤ (hI u2.2 84 16) then
        inr (s_Mod_reads_95 u2.2)
      else
        (s_Mod_faults u2.2).bind fun u4 => inr (s_Mod_reads_95 u4)
  else
    if v1 = ((12 : Int32)) then
      (s_Mod_faults u2.2).bind fun u5 => s_Mod_reads_56 v1 u5
    else
      s_Mod_reads_56 v1 u2.2
noncomputable def s_Mod_reads (h : Hp) : Option (Int32 × Hp) :=
  (s_Mod_splits (hI h 84 10) h).bind fun u1 => (s_Mod_readClause (sI (sI (sI (sI u1 84 10 ((0 : Int32))) 84 16 ((0 : Int32))) 84 17 ((0 : Int32))) 84 18 ((-1 : Int32)))).bind fun u2 => lp (fun q => s_Mod_reads_34 q.1 q.2) (((1 : Int32)), u2)
def O_Mod_reads (G : jG) (X : jX) (out : (Int32 × Hp)) : Prop := jO G X (some .boolean) (some (.int out.1)) out.2
def P_Mod_reads_34 (G : jG) (X : jX) (q : Int32 × Hp) : Prop := J G X 34 [(0, .ref (G.1 + 84)), (1, .int q.1)] [] q.2
def O_Mod_reads_34 (G : jG) (X : jX) (t : ((Int32 × Hp) ⊕ (Int32 × Hp))) : Prop := Sum.elim (P_Mod_reads_34 G X) (O_Mod_reads G X) t
theorem w_Mod_reads_67 {G : jG} {X : jX} (C : jC G X cX12_reads 2 RX12 167 3795) {v1 : Int32} {h : Hp} {out : ((Int32 × Hp) ⊕ (Int32 × Hp))} (O : (O_Mod_reads_34 G X) out) (hm : s_Mod_reads_67 v1 h = some out) : J G X 67 [(0, .ref (G.1 + 84)), (1, .int v1)] [] h := by
  unfold s_Mod_reads_67 at hm
  refine j_iinc C 1 [(1, .int (v1 + (1 : Int32))), (0, .ref (G.1 + 84))] dX12_reads_67 rfl (add_lit (by decide)) (by decide) rfl ?_
  refine j_goto C 34 dX12_reads_70 (by decide) ?_
  obtain rfl := Option.some.inj hm
  refine j_sub (L' := [(0, .ref (G.1 + 84)), (1, .int (v1 + (1 : Int32)))]) [1, 0] rfl ?_
  exact O
theorem w_Mod_reads_56 {G : jG} {X : jX} (C : jC G X cX12_reads 2 RX12 167 3795) {v1 : Int32} {h : Hp} {out : ((Int32 × Hp) ⊕ (Int32 × Hp))} (O : (O_Mod_reads_34 G X) out) (hm : s_Mod_reads_56 v1 h = some out) : J G X 56 [(0, .ref (G.1 + 84)), (1, .int v1)] [] h := by
  unfold s_Mod_reads_56 at hm
  refine j_aload_n C 0 dX12_reads_56 rfl rfl ?_
  refine j_cV C l_X12_161 [] [] (fun u1 => some (.int u1)) (fun _ => h) (fun u1 => [.int u1]) n_84 hm (fun l u hu => c_Mod_fine hu) rfl (Nat.le_of_ble_eq_true rfl) rfl (Nat.le_of_ble_eq_true rfl) (Nat.le_of_ble_eq_true rfl) (fun _ => rfl) dX12_reads_57 (fun u1 hm => ?_)
  refine j_ifeq C 67 dX12_reads_60 (by decide) hm (fun hm => ?_) (fun hm => ?_)
  · refine j_sub (L' := [(0, .ref (G.1 + 84)), (1, .int v1)]) [0, 1] rfl ?_
    exact w_Mod_reads_67 C O hm
  · refine j_aload_n C 0 dX12_reads_63 rfl rfl ?_
    refine j_cV C l_X12_209 [] [] (fun _ => none) (fun u2 => u2) (fun u2 => []) n_84 hm (fun l u hu => c_Mod_readClause hu) rfl (Nat.le_of_ble_eq_true rfl) rfl (Nat.le_of_ble_eq_true rfl) (Nat.le_of_ble_eq_true rfl) (fun _ => rfl) dX12_reads_64 (fun u2 hm => ?_)
    refine j_sub (L' := [(0, .ref (G.1 + 84)), (1, .int v1)]) [0, 1] rfl ?_
    exact w_Mod_reads_67 C O hm
theorem w_Mod_reads_95 {G : jG} {X : jX} (C : jC G X cX12_reads 2 RX12 167 3795) {h : Hp} {out : (Int32 × Hp)} (O : (O_Mod_reads G X) out) (hm : s_Mod_reads_95 h = some out) : J G X 95 [(0, .ref (G.1 + 84))] [] h := by
  unfold s_Mod_reads_95 at hm
  refine j_aload_n C 0 dX12_reads_95 rfl rfl ?_
  refine j_aload_n C 0 dX12_reads_96 rfl rfl ?_
  refine j_gI C f_X12_158 n_84 dX12_reads_97 ?_
  refine j_pI C f_X12_40 n_84 dX12_reads_100 ?_
  refine j_aload_n C 0 dX12_reads_103 rfl rfl ?_
  refine j_cV C l_X12_161 [] [] (fun u1 => some (.int u1)) (fun _ => sI h 84 11 (hI h 84 18)) (fun u1 => [.int u1]) n_84 hm (fun l u hu => c_Mod_fine hu) rfl (Nat.le_of_ble_eq_true rfl) rfl (Nat.le_of_ble_eq_true rfl) (Nat.le_of_ble_eq_true rfl) (fun _ => rfl) dX12_reads_104 (fun u1 hm => ?_)
  obtain ⟨cz, hm⟩ := bz_inv hm
  obtain rfl := Option.some.inj hm
  exact j_zret C O cz dX12_reads_107
theorem w_Mod_reads_34 {G : jG} {X : jX} (C : jC G X cX12_reads 2 RX12 167 3795) {v1 : Int32} {h : Hp} {out : ((Int32 × Hp) ⊕ (Int32 × Hp))} (O : (O_Mod_reads_34 G X) out) (hm : s_Mod_reads_34 v1 h = some out) : J G X 34 [(0, .ref (G.1 + 84)), (1, .int v1)] [] h := by
  unfold s_Mod_reads_34 at hm
  refine j_aload_n C 0 dX12_reads_34 rfl rfl ?_
  refine j_bipush C 59 dX12_reads_35 (by decide) ?_
  refine j_cS C l_X12_193 [.int ((59 : Int32))] [.ref (G.1 + 84)] (fun u1 => some (.int u1)) (fun _ => h) (fun u1 => [.int u1, .ref (G.1 + 84)]) hm (fun l u hu => c_Mod_sign hu) rfl (Nat.le_of_ble_eq_true rfl) rfl (Nat.le_of_ble_eq_true rfl) (Nat.le_of_ble_eq_true rfl) (fun _ => rfl) dX12_reads_37 (fun u1 hm => ?_)
  refine j_cV C l_X12_168 [.int u1] [] (fun u2 => some (.int u2.1)) (fun u2 => u2.2) (fun u2 => [.int u2.1]) n_84 hm (fun l u hu => c_Mod_takes0 hu) rfl (Nat.le_of_ble_eq_true rfl) rfl (Nat.le_of_ble_eq_true rfl) (Nat.le_of_ble_eq_true rfl) (fun _ => rfl) dX12_reads_40 (fun u2 hm => ?_)
  refine j_ifeq C 73 dX12_reads_43 (by decide) hm (fun hm => ?_) (fun hm => ?_)
  · refine j_aload_n C 0 dX12_reads_73 rfl rfl ?_
    refine j_cV C l_X12_161 [] [] (fun u3 => some (.int u3)) (fun _ => u2.2) (fun u3 => [.int u3]) n_84 hm (fun l u hu => c_Mod_fine hu) rfl (Nat.le_of_ble_eq_true rfl) rfl (Nat.le_of_ble_eq_true rfl) (Nat.le_of_ble_eq_true rfl) (fun _ => rfl) dX12_reads_74 (fun u3 hm => ?_)
    refine j_ifeq C 95 dX12_reads_77 (by decide) hm (fun hm => ?_) (fun hm => ?_)
    · obtain ⟨o_0, hm_0, rfl⟩ := inr_inv hm
      refine j_sub (L' := [(0, .ref (G.1 + 84))]) [0] rfl ?_
      exact w_Mod_reads_95 C O hm_0
    · refine j_aload_n C 0 dX12_reads_80 rfl rfl ?_
      refine j_gI C f_X12_165 n_84 dX12_reads_81 ?_
      refine j_aload_n C 0 dX12_reads_84 rfl rfl ?_
      refine j_gI C f_X12_145 n_84 dX12_reads_85 ?_
      refine j_if_icmpge C 95 dX12_reads_88 (by decide) hm (fun hm => ?_) (fun hm => ?_)
      · obtain ⟨o_0, hm_0, rfl⟩ := inr_inv hm
        refine j_sub (L' := [(0, .ref (G.1 + 84))]) [0] rfl ?_
        exact w_Mod_reads_95 C O hm_0
      · refine j_aload_n C 0 dX12_reads_91 rfl rfl ?_
        refine j_cV C l_X12_171 [] [] (fun _ => none) (fun u4 => u4) (fun u4 => []) n_84 hm (fun l u hu => c_Mod_faults hu) rfl (Nat.le_of_ble_eq_true rfl) rfl (Nat.le_of_ble_eq_true rfl) (Nat.le_of_ble_eq_true rfl) (fun _ => rfl) dX12_reads_92 (fun u4 hm => ?_)
        obtain ⟨o_0, hm_0, rfl⟩ := inr_inv hm
        refine j_sub (L' := [(0, .ref (G.1 + 84))]) [0] rfl ?_
        exact w_Mod_reads_95 C O hm_0
  · refine j_iload_n C 1 dX12_reads_46 rfl rfl ?_
    refine j_bipush C 12 dX12_reads_47 (by decide) ?_
    refine j_if_icmpne C 56 dX12_reads_49 (by decide) hm (fun hm => ?_) (fun hm => ?_)
    · refine j_aload_n C 0 dX12_reads_52 rfl rfl ?_
      refine j_cV C l_X12_171 [] [] (fun _ => none) (fun u5 => u5) (fun u5 => []) n_84 hm (fun l u hu => c_Mod_faults hu) rfl (Nat.le_of_ble_eq_true rfl) rfl (Nat.le_of_ble_eq_true rfl) (Nat.le_of_ble_eq_true rfl) (fun _ => rfl) dX12_reads_53 (fun u5 hm => ?_)
      refine j_sub (L' := [(0, .ref (G.1 + 84)), (1, .int v1)]) [0, 1] rfl ?_
      exact w_Mod_reads_56 C O hm
    · refine j_sub (L' := [(0, .ref (G.1 + 84)), (1, .int v1)]) [0, 1] rfl ?_
      exact w_Mod_reads_56 C O hm
theorem k_Mod_reads_34 {G : jG} {X : jX} (C : jC G X cX12_reads 2 RX12 167 3795) {v1 : Int32} {h : Hp} {out : (Int32 × Hp)} (O : (O_Mod_reads G X) out) (hm : lp (fun q => s_Mod_reads_34 q.1 q.2) (v1, h) = some out) : J G X 34 [(0, .ref (G.1 + 84)), (1, .int v1)] [] h :=
  lp_ok (P := P_Mod_reads_34 G X) (O := (O_Mod_reads G X)) (fun q r hm O => w_Mod_reads_34 C O hm) hm O
theorem w_Mod_reads {G : jG} {X : jX} (C : jC G X cX12_reads 2 RX12 167 3795) {h : Hp} {out : (Int32 × Hp)} (O : (O_Mod_reads G X) out) (hm : s_Mod_reads h = some out) : J G X 0 [(0, .ref (G.1 + 84))] [] h := by
  unfold s_Mod_reads at hm
  refine j_aload_n C 0 dX12_reads_0 rfl rfl ?_
  refine j_aload_n C 0 dX12_reads_1 rfl rfl ?_
  refine j_gI C f_X12_139 n_84 dX12_reads_2 ?_
  refine j_cV C l_X12_206 [.int (hI h 84 10)] [] (fun _ => none) (fun u1 => u1) (fun u1 => []) n_84 hm (fun l u hu => c_Mod_splits hu) rfl (Nat.le_of_ble_eq_true rfl) rfl (Nat.le_of_ble_eq_true rfl) (Nat.le_of_ble_eq_true rfl) (fun _ => rfl) dX12_reads_5 (fun u1 hm => ?_)
  refine j_aload_n C 0 dX12_reads_8 rfl rfl ?_
  refine j_iconst C 0 dX12_reads_9 (by decide) ?_
  refine j_pI C f_X12_139 n_84 dX12_reads_10 ?_
  refine j_aload_n C 0 dX12_reads_13 rfl rfl ?_
  refine j_iconst C 0 dX12_reads_14 (by decide) ?_
  refine j_pI C f_X12_165 n_84 dX12_reads_15 ?_
  refine j_aload_n C 0 dX12_reads_18 rfl rfl ?_
  refine j_iconst C 0 dX12_reads_19 (by decide) ?_
  refine j_pI C f_X12_174 n_84 dX12_reads_20 ?_
  refine j_aload_n C 0 dX12_reads_23 rfl rfl ?_
  refine j_iconst C (-1 : Int32) dX12_reads_24 (by decide) ?_
  refine j_pI C f_X12_158 n_84 dX12_reads_25 ?_
  refine j_aload_n C 0 dX12_reads_28 rfl rfl ?_
  refine j_cV C l_X12_209 [] [] (fun _ => none) (fun u2 => u2) (fun u2 => []) n_84 hm (fun l u hu => c_Mod_readClause hu) rfl (Nat.le_of_ble_eq_true rfl) rfl (Nat.le_of_ble_eq_true rfl) (Nat.le_of_ble_eq_true rfl) (fun _ => rfl) dX12_reads_29 (fun u2 hm => ?_)
  refine j_iconst C 1 dX12_reads_32 (by decide) ?_
  refine j_istore_n C [(1, .int ((1 : Int32))), (0, .ref (G.1 + 84))] dX12_reads_33 rfl (by decide) rfl ?_
  refine j_sub (L' := [(0, .ref (G.1 + 84)), (1, .int ((1 : Int32)))]) [1, 0] rfl ?_
  exact k_Mod_reads_34 C O hm
theorem c_Mod_reads {G : jG} {l : Launch} {h : Hp} {out : (Int32 × Hp)} (hm : s_Mod_reads h = some out) : mt G l yX12_reads cX12_reads 2 (some .boolean) 167 3795 [.ref (G.1 + 84)] h (some (.int out.1)) out.2 :=
  mt_of (by decide) (Nat.le_of_ble_eq_true rfl) _ rfl (fun X I C O => w_Mod_reads C O hm)
noncomputable def s_Mod_law_64 (v1 : Int32) (v2 : Int32) (h : Hp) : Option ((Int32 × Int32 × Hp) ⊕ (Int32 × Hp)) :=
  if (hI h 84 15) ≤ v2 then
    ib ((189 : Int32)) 4998 <| ib ((189 : Int32)) 4998 <| (s_Mod_good v1 (sI h 86 (ix ((189 : Int32))) ((hI h 86 (ix ((189 : Int32)))) + ((1 : Int32))))).bind fun u1 => some (.inr (u1.1, u1.2))
  else
    ib v2 401 <| ib ((((198 : Int32)) + (((400 : Int32)) * v1)) + v2) 4998 <| lt (sI h 86 (ix ((((198 : Int32)) + (((400 : Int32)) * v1)) + v2)) (hI h 92 (ix v2))) fun h2 => ib v2 401 <| ib ((((2598 : Int32)) + (((400 : Int32)) * v1)) + v2) 4998 <| some (.inl (v1, (v2 + (1 : Int32)), (sI h2 86 (ix ((((2598 : Int32)) + (((400 : Int32)) * v1)) + v2)) (hI h2 93 (ix v2)))))
noncomputable def s_Mod_law (h : Hp) : Option (Int32 × Hp) :=
  ib ((189 : Int32)) 4998 <| if (hI h 86 (ix ((189 : Int32)))) = ((6 : Int32)) then
    (s_Mod_refuses ((-5 : Int32)) (sI h 84 10 ((0 : Int32)))).bind fun u3 => some (u3.1, u3.2)
  else
    (s_Mod_reads h).bind fun u1 => if u1.1 = 0 then
      (s_Mod_refuses ((-6 : Int32)) u1.2).bind fun u2 => some (u2.1, u2.2)
    else
      ib ((189 : Int32)) 4998 <| ib (((192 : Int32)) + (hI u1.2 86 (ix ((189 : Int32))))) 4998 <| lp (fun q => s_Mod_law_64 q.1 q.2.1 q.2.2) ((hI u1.2 86 (ix ((189 : Int32)))), ((0 : Int32)), (sI u1.2 86 (ix (((192 : Int32)) + (hI u1.2 86 (ix ((189 : Int32)))))) (hI u1.2 84 15)))
def O_Mod_law (G : jG) (X : jX) (out : (Int32 × Hp)) : Prop := jO G X (some .int) (some (.int out.1)) out.2
def P_Mod_law_64 (G : jG) (X : jX) (q : Int32 × Int32 × Hp) : Prop := J G X 64 [(0, .ref (G.1 + 84)), (1, .int q.1), (2, .int q.2.1)] [] q.2.2
def O_Mod_law_64 (G : jG) (X : jX) (t : ((Int32 × Int32 × Hp) ⊕ (Int32 × Hp))) : Prop := Sum.elim (P_Mod_law_64 G X) (O_Mod_law G X) t
theorem w_Mod_law_64 {G : jG} {X : jX} (C : jC G X cX12_law 3 RX12 168 3816) {v1 : Int32} {v2 : Int32} {h : Hp} {out : ((Int32 × Int32 × Hp) ⊕ (Int32 × Hp))} (O : (O_Mod_law_64 G X) out) (hm : s_Mod_law_64 v1 v2 h = some out) : J G X 64 [(0, .ref (G.1 + 84)), (1, .int v1), (2, .int v2)] [] h := by
  unfold s_Mod_law_64 at hm
  refine j_iload_n C 2 dX12_law_64 rfl rfl ?_
  refine j_aload_n C 0 dX12_law_65 rfl rfl ?_
  refine j_gI C f_X12_145 n_84 dX12_law_66 ?_
  refine j_if_icmpge C 122 dX12_law_69 (by decide) hm (fun hm => ?_) (fun hm => ?_)
  · refine j_aload_n C 0 dX12_law_122 rfl rfl ?_
    refine j_gS C f_X12_20 n_84 q_84_3 dX12_law_123 ?_
    refine j_sipush C 189 dX12_law_126 (by decide) ?_
    refine j_dup2_11 C dX12_law_129 rfl rfl ?_
    refine j_iald C n_86 hm dX12_law_130 (fun hm => ?_)
    refine j_iconst C 1 dX12_law_131 (by decide) ?_
    refine j_iadd C dX12_law_132 ?_
    refine j_iast C n_86 hm dX12_law_133 (fun hm => ?_)
    refine j_aload_n C 0 dX12_law_134 rfl rfl ?_
    refine j_iload_n C 1 dX12_law_135 rfl rfl ?_
    refine j_cV C l_X12_121 [.int v1] [] (fun u1 => some (.int u1.1)) (fun u1 => u1.2) (fun u1 => [.int u1.1]) n_84 hm (fun l u hu => c_Mod_good hu) rfl (Nat.le_of_ble_eq_true rfl) rfl (Nat.le_of_ble_eq_true rfl) (Nat.le_of_ble_eq_true rfl) (fun _ => rfl) dX12_law_136 (fun u1 hm => ?_)
    obtain rfl := Option.some.inj hm
    exact j_iret C O dX12_law_139
  · refine j_aload_n C 0 dX12_law_72 rfl rfl ?_
    refine j_gS C f_X12_20 n_84 q_84_3 dX12_law_73 ?_
    refine j_sipush C 198 dX12_law_76 (by decide) ?_
    refine j_sipush C 400 dX12_law_79 (by decide) ?_
    refine j_iload_n C 1 dX12_law_82 rfl rfl ?_
    refine j_imul C dX12_law_83 ?_
    refine j_iadd C dX12_law_84 ?_
    refine j_iload_n C 2 dX12_law_85 rfl rfl ?_
    refine j_iadd C dX12_law_86 ?_
    refine j_aload_n C 0 dX12_law_87 rfl rfl ?_
    refine j_gS C f_X12_43 n_84 q_84_12 dX12_law_88 ?_
    refine j_iload_n C 2 dX12_law_91 rfl rfl ?_
    refine j_iald C n_92 hm dX12_law_92 (fun hm => ?_)
    refine j_iast C n_86 hm dX12_law_93 (fun hm => ?_)
    refine j_aload_n C 0 dX12_law_94 rfl rfl ?_
    refine j_nmH hm (fun h2 hm => ?_)
    refine j_gS C f_X12_20 n_84 q_84_3 dX12_law_95 ?_
    refine j_sipush C 2598 dX12_law_98 (by decide) ?_
    refine j_sipush C 400 dX12_law_101 (by decide) ?_
    refine j_iload_n C 1 dX12_law_104 rfl rfl ?_
    refine j_imul C dX12_law_105 ?_
    refine j_iadd C dX12_law_106 ?_
    refine j_iload_n C 2 dX12_law_107 rfl rfl ?_
    refine j_iadd C dX12_law_108 ?_
    refine j_aload_n C 0 dX12_law_109 rfl rfl ?_
    refine j_gS C f_X12_46 n_84 q_84_13 dX12_law_110 ?_
    refine j_iload_n C 2 dX12_law_113 rfl rfl ?_
    refine j_iald C n_93 hm dX12_law_114 (fun hm => ?_)
    refine j_iast C n_86 hm dX12_law_115 (fun hm => ?_)
    refine j_iinc C 2 [(2, .int (v2 + (1 : Int32))), (0, .ref (G.1 + 84)), (1, .int v1)] dX12_law_116 rfl (add_lit (by decide)) (by decide) rfl ?_
    refine j_goto C 64 dX12_law_119 (by decide) ?_
    obtain rfl := Option.some.inj hm
    refine j_sub (L' := [(0, .ref (G.1 + 84)), (1, .int v1), (2, .int (v2 + (1 : Int32)))]) [1, 2, 0] rfl ?_
    exact O
theorem k_Mod_law_64 {G : jG} {X : jX} (C : jC G X cX12_law 3 RX12 168 3816) {v1 : Int32} {v2 : Int32} {h : Hp} {out : (Int32 × Hp)} (O : (O_Mod_law G X) out) (hm : lp (fun q => s_Mod_law_64 q.1 q.2.1 q.2.2) (v1, v2, h) = some out) : J G X 64 [(0, .ref (G.1 + 84)), (1, .int v1), (2, .int v2)] [] h :=
  lp_ok (P := P_Mod_law_64 G X) (O := (O_Mod_law G X)) (fun q r hm O => w_Mod_law_64 C O hm) hm O
theorem w_Mod_law {G : jG} {X : jX} (C : jC G X cX12_law 3 RX12 168 3816) {h : Hp} {out : (Int32 × Hp)} (O : (O_Mod_law G X) out) (hm : s_Mod_law h = some out) : J G X 0 [(0, .ref (G.1 + 84))] [] h := by
  unfold s_Mod_law at hm
  refine j_aload_n C 0 dX12_law_0 rfl rfl ?_
  refine j_gS C f_X12_20 n_84 q_84_3 dX12_law_1 ?_
  refine j_sipush C 189 dX12_law_4 (by decide) ?_
  refine j_iald C n_86 hm dX12_law_7 (fun hm => ?_)
  refine j_bipush C 6 dX12_law_8 (by decide) ?_
  refine j_if_icmpne C 25 dX12_law_10 (by decide) hm (fun hm => ?_) (fun hm => ?_)
  · refine j_aload_n C 0 dX12_law_13 rfl rfl ?_
    refine j_iconst C 0 dX12_law_14 (by decide) ?_
    refine j_pI C f_X12_139 n_84 dX12_law_15 ?_
    refine j_aload_n C 0 dX12_law_18 rfl rfl ?_
    refine j_bipush C (-5 : Int32) dX12_law_19 (by decide) ?_
    refine j_cV C l_X12_117 [.int ((-5 : Int32))] [] (fun u3 => some (.int u3.1)) (fun u3 => u3.2) (fun u3 => [.int u3.1]) n_84 hm (fun l u hu => c_Mod_refuses hu) rfl (Nat.le_of_ble_eq_true rfl) rfl (Nat.le_of_ble_eq_true rfl) (Nat.le_of_ble_eq_true rfl) (fun _ => rfl) dX12_law_21 (fun u3 hm => ?_)
    obtain rfl := Option.some.inj hm
    exact j_iret C O dX12_law_24
  · refine j_aload_n C 0 dX12_law_25 rfl rfl ?_
    refine j_cV C l_X12_212 [] [] (fun u1 => some (.int u1.1)) (fun u1 => u1.2) (fun u1 => [.int u1.1]) n_84 hm (fun l u hu => c_Mod_reads hu) rfl (Nat.le_of_ble_eq_true rfl) rfl (Nat.le_of_ble_eq_true rfl) (Nat.le_of_ble_eq_true rfl) (fun _ => rfl) dX12_law_26 (fun u1 hm => ?_)
    refine j_ifne C 39 dX12_law_29 (by decide) hm (fun hm => ?_) (fun hm => ?_)
    · refine j_aload_n C 0 dX12_law_32 rfl rfl ?_
      refine j_bipush C (-6 : Int32) dX12_law_33 (by decide) ?_
      refine j_cV C l_X12_117 [.int ((-6 : Int32))] [] (fun u2 => some (.int u2.1)) (fun u2 => u2.2) (fun u2 => [.int u2.1]) n_84 hm (fun l u hu => c_Mod_refuses hu) rfl (Nat.le_of_ble_eq_true rfl) rfl (Nat.le_of_ble_eq_true rfl) (Nat.le_of_ble_eq_true rfl) (fun _ => rfl) dX12_law_35 (fun u2 hm => ?_)
      obtain rfl := Option.some.inj hm
      exact j_iret C O dX12_law_38
    · refine j_aload_n C 0 dX12_law_39 rfl rfl ?_
      refine j_gS C f_X12_20 n_84 q_84_3 dX12_law_40 ?_
      refine j_sipush C 189 dX12_law_43 (by decide) ?_
      refine j_iald C n_86 hm dX12_law_46 (fun hm => ?_)
      refine j_istore_n C [(1, .int (hI u1.2 86 (ix ((189 : Int32))))), (0, .ref (G.1 + 84))] dX12_law_47 rfl (by decide) rfl ?_
      refine j_aload_n C 1 dX12_law_48 rfl rfl ?_
      refine j_gS C f_X12_20 n_84 q_84_3 dX12_law_49 ?_
      refine j_sipush C 192 dX12_law_52 (by decide) ?_
      refine j_iload_n C 0 dX12_law_55 rfl rfl ?_
      refine j_iadd C dX12_law_56 ?_
      refine j_aload_n C 1 dX12_law_57 rfl rfl ?_
      refine j_gI C f_X12_145 n_84 dX12_law_58 ?_
      refine j_iast C n_86 hm dX12_law_61 (fun hm => ?_)
      refine j_iconst C 0 dX12_law_62 (by decide) ?_
      refine j_istore_n C [(2, .int ((0 : Int32))), (1, .int (hI u1.2 86 (ix ((189 : Int32))))), (0, .ref (G.1 + 84))] dX12_law_63 rfl (by decide) rfl ?_
      refine j_sub (L' := [(0, .ref (G.1 + 84)), (1, .int (hI u1.2 86 (ix ((189 : Int32))))), (2, .int ((0 : Int32)))]) [2, 1, 0] rfl ?_
      exact k_Mod_law_64 C O hm
theorem c_Mod_law {G : jG} {l : Launch} {h : Hp} {out : (Int32 × Hp)} (hm : s_Mod_law h = some out) : mt G l yX12_law cX12_law 3 (some .int) 168 3816 [.ref (G.1 + 84)] h (some (.int out.1)) out.2 :=
  mt_of (by decide) (Nat.le_of_ble_eq_true rfl) _ rfl (fun X I C O => w_Mod_law C O hm)
