noncomputable def s_Mod_latest_114 (v1 : Int32) (v2 : Int32) (v3 : Int32) (v4 : Int32) (v5 : Int32) (v6 : Int32) (v8 : Int32) (s0 : Int32) (h : Hp) : Option ((Int32 × Int32 × Int32 × Int32 × Int32 × Int32 × Int32 × Int32 × Hp) ⊕ ((Int32 × Int32 × Int32 × Int32 × Int32 × Int32 × Hp) ⊕ ((Int32 × Int32 × Int32 × Int32 × Int32 × Hp) ⊕ (Int32 × Hp)))) :=
  some (.inl (v1, v2, v3, v4, v5, v6, s0, (v8 + (1 : Int32)), h))
noncomputable def s_Mod_latest_109 (v1 : Int32) (v2 : Int32) (v3 : Int32) (v4 : Int32) (v5 : Int32) (v6 : Int32) (v8 : Int32) (h : Hp) : Option ((Int32 × Int32 × Int32 × Int32 × Int32 × Int32 × Int32 × Int32 × Hp) ⊕ ((Int32 × Int32 × Int32 × Int32 × Int32 × Int32 × Hp) ⊕ ((Int32 × Int32 × Int32 × Int32 × Int32 × Hp) ⊕ (Int32 × Hp)))) :=
  s_Mod_latest_114 v1 v2 v3 v4 v5 v6 v8 ((1 : Int32)) h
noncomputable def s_Mod_latest_113 (v1 : Int32) (v2 : Int32) (v3 : Int32) (v4 : Int32) (v5 : Int32) (v6 : Int32) (v8 : Int32) (h : Hp) : Option ((Int32 × Int32 × Int32 × Int32 × Int32 × Int32 × Int32 × Int32 × Hp) ⊕ ((Int32 × Int32 × Int32 × Int32 × Int32 × Int32 × Hp) ⊕ ((Int32 × Int32 × Int32 × Int32 × Int32 × Hp) ⊕ (Int32 × Hp)))) :=
  s_Mod_latest_114 v1 v2 v3 v4 v5 v6 v8 ((0 : Int32)) h
noncomputable def s_Mod_latest_160 (v1 : Int32) (v2 : Int32) (v3 : Int32) (v4 : Int32) (v5 : Int32) (v6 : Int32) (s0 : Int32) (s1 : Int32) (h : Hp) : Option ((Int32 × Int32 × Int32 × Int32 × Int32 × Int32 × Hp) ⊕ ((Int32 × Int32 × Int32 × Int32 × Int32 × Hp) ⊕ (Int32 × Hp))) :=
  ib s1 7200 <| some (.inl (v1, v2, v3, v4, v5, (v6 + (1 : Int32)), (sI h 101 (ix s1) (z_nz s0))))
noncomputable def s_Mod_latest_159 (v1 : Int32) (v2 : Int32) (v3 : Int32) (v4 : Int32) (v5 : Int32) (v6 : Int32) (s0 : Int32) (h : Hp) : Option ((Int32 × Int32 × Int32 × Int32 × Int32 × Int32 × Hp) ⊕ ((Int32 × Int32 × Int32 × Int32 × Int32 × Hp) ⊕ (Int32 × Hp))) :=
  s_Mod_latest_160 v1 v2 v3 v4 v5 v6 ((0 : Int32)) s0 h
noncomputable def s_Mod_latest_122 (v1 : Int32) (v2 : Int32) (v3 : Int32) (v4 : Int32) (v5 : Int32) (v6 : Int32) (v7 : Int32) (h : Hp) : Option ((Int32 × Int32 × Int32 × Int32 × Int32 × Int32 × Hp) ⊕ ((Int32 × Int32 × Int32 × Int32 × Int32 × Hp) ⊕ (Int32 × Hp))) :=
  if v7 = 0 then
    s_Mod_latest_159 v1 v2 v3 v4 v5 v6 ((((50 : Int32)) * v5) + v6) h
  else
    (s_Mod_minuteOf v5 ((0 : Int32)) h).bind fun u1 => (s_Mod_canBe v1 v6 u1 h).bind fun u2 => if u2 = 0 then
      s_Mod_latest_159 v1 v2 v3 v4 v5 v6 ((((50 : Int32)) * v5) + v6) h
    else
      s_Mod_latest_160 v1 v2 v3 v4 v5 v6 ((1 : Int32)) ((((50 : Int32)) * v5) + v6) h
noncomputable def s_Mod_latest_53 (v1 : Int32) (v2 : Int32) (v3 : Int32) (v4 : Int32) (v5 : Int32) (v6 : Int32) (v7 : Int32) (v8 : Int32) (h : Hp) : Option ((Int32 × Int32 × Int32 × Int32 × Int32 × Int32 × Int32 × Int32 × Hp) ⊕ ((Int32 × Int32 × Int32 × Int32 × Int32 × Int32 × Hp) ⊕ ((Int32 × Int32 × Int32 × Int32 × Int32 × Hp) ⊕ (Int32 × Hp)))) :=
  if ((5 : Int32)) ≤ v8 then
    inr (s_Mod_latest_122 v1 v2 v3 v4 v5 v6 v7 h)
  else
    if v4 ≤ v5 then
      inr (s_Mod_latest_122 v1 v2 v3 v4 v5 v6 v7 h)
    else
      (s_Mod_behind v1 v6 v5 v8 ((0 : Int32)) h).bind fun u1 => if v7 = 0 then
        if u1 = ((-1 : Int32)) then
          s_Mod_latest_113 v1 v2 v3 v4 v5 v6 v8 h
        else
          ib ((((50 : Int32)) * (v5 + ((1 : Int32)))) + u1) 7200 <| if (hI h 101 (ix ((((50 : Int32)) * (v5 + ((1 : Int32)))) + u1))) = 0 then
            s_Mod_latest_113 v1 v2 v3 v4 v5 v6 v8 h
          else
            s_Mod_latest_109 v1 v2 v3 v4 v5 v6 v8 h
      else
        s_Mod_latest_109 v1 v2 v3 v4 v5 v6 v8 h
noncomputable def s_Mod_latest_48 (v1 : Int32) (v2 : Int32) (v3 : Int32) (v4 : Int32) (v5 : Int32) (v6 : Int32) (s0 : Int32) (h : Hp) : Option ((Int32 × Int32 × Int32 × Int32 × Int32 × Int32 × Hp) ⊕ ((Int32 × Int32 × Int32 × Int32 × Int32 × Hp) ⊕ (Int32 × Hp))) :=
  lp (fun q => s_Mod_latest_53 q.1 q.2.1 q.2.2.1 q.2.2.2.1 q.2.2.2.2.1 q.2.2.2.2.2.1 q.2.2.2.2.2.2.1 q.2.2.2.2.2.2.2.1 q.2.2.2.2.2.2.2.2) (v1, v2, v3, v4, v5, v6, s0, ((0 : Int32)), h)
noncomputable def s_Mod_latest_30 (v1 : Int32) (v2 : Int32) (v3 : Int32) (v4 : Int32) (v5 : Int32) (v6 : Int32) (h : Hp) : Option ((Int32 × Int32 × Int32 × Int32 × Int32 × Int32 × Hp) ⊕ ((Int32 × Int32 × Int32 × Int32 × Int32 × Hp) ⊕ (Int32 × Hp))) :=
  if ((50 : Int32)) ≤ v6 then
    ib ((((50 : Int32)) * v5) + v2) 7200 <| if (hI h 101 (ix ((((50 : Int32)) * v5) + v2))) = 0 then
      some (.inr (.inl (v1, v2, v3, v4, (v5 + (-1 : Int32)), h)))
    else
      some (.inr (.inr (v5, h)))
  else
    if v6 = v3 then
      s_Mod_latest_48 v1 v2 v3 v4 v5 v6 ((1 : Int32)) h
    else
      s_Mod_latest_48 v1 v2 v3 v4 v5 v6 ((0 : Int32)) h
noncomputable def s_Mod_latest_22 (v1 : Int32) (v2 : Int32) (v3 : Int32) (v4 : Int32) (v5 : Int32) (h : Hp) : Option ((Int32 × Int32 × Int32 × Int32 × Int32 × Hp) ⊕ (Int32 × Hp)) :=
  if v5 < 0 then
    some (.inr ((-1 : Int32), h))
  else
    lp (fun q => s_Mod_latest_30 q.1 q.2.1 q.2.2.1 q.2.2.2.1 q.2.2.2.2.1 q.2.2.2.2.2.1 q.2.2.2.2.2.2) (v1, v2, v3, v4, v5, ((0 : Int32)), h)
noncomputable def s_Mod_latest (v1 : Int32) (v2 : Int32) (v3 : Int32) (v4 : Int32) (h : Hp) : Option (Int32 × Hp) :=
  (s_Mod_isWay v1 v4 v2 v3 h).bind fun u1 => if u1 = 0 then
    some ((-1 : Int32), h)
  else
    (s_Mod_looks h).bind fun u2 => lp (fun q => s_Mod_latest_22 q.1 q.2.1 q.2.2.1 q.2.2.2.1 q.2.2.2.2.1 q.2.2.2.2.2) (v1, v2, v3, v4, v4, u2)
def O_Mod_latest (G : jG) (X : jX) (out : (Int32 × Hp)) : Prop := jO G X (some .int) (some (.int out.1)) out.2
def P_Mod_latest_22 (G : jG) (X : jX) (q : Int32 × Int32 × Int32 × Int32 × Int32 × Hp) : Prop := J G X 22 [(0, .ref (G.1 + 84)), (1, .int q.1), (2, .int q.2.1), (3, .int q.2.2.1), (4, .int q.2.2.2.1), (5, .int q.2.2.2.2.1)] [] q.2.2.2.2.2
def O_Mod_latest_22 (G : jG) (X : jX) (t : ((Int32 × Int32 × Int32 × Int32 × Int32 × Hp) ⊕ (Int32 × Hp))) : Prop := Sum.elim (P_Mod_latest_22 G X) (O_Mod_latest G X) t
def P_Mod_latest_30 (G : jG) (X : jX) (q : Int32 × Int32 × Int32 × Int32 × Int32 × Int32 × Hp) : Prop := J G X 30 [(0, .ref (G.1 + 84)), (1, .int q.1), (2, .int q.2.1), (3, .int q.2.2.1), (4, .int q.2.2.2.1), (5, .int q.2.2.2.2.1), (6, .int q.2.2.2.2.2.1)] [] q.2.2.2.2.2.2
def O_Mod_latest_30 (G : jG) (X : jX) (t : ((Int32 × Int32 × Int32 × Int32 × Int32 × Int32 × Hp) ⊕ ((Int32 × Int32 × Int32 × Int32 × Int32 × Hp) ⊕ (Int32 × Hp)))) : Prop := Sum.elim (P_Mod_latest_30 G X) (O_Mod_latest_22 G X) t
def P_Mod_latest_53 (G : jG) (X : jX) (q : Int32 × Int32 × Int32 × Int32 × Int32 × Int32 × Int32 × Int32 × Hp) : Prop := J G X 53 [(0, .ref (G.1 + 84)), (1, .int q.1), (2, .int q.2.1), (3, .int q.2.2.1), (4, .int q.2.2.2.1), (5, .int q.2.2.2.2.1), (6, .int q.2.2.2.2.2.1), (7, .int q.2.2.2.2.2.2.1), (8, .int q.2.2.2.2.2.2.2.1)] [] q.2.2.2.2.2.2.2.2
def O_Mod_latest_53 (G : jG) (X : jX) (t : ((Int32 × Int32 × Int32 × Int32 × Int32 × Int32 × Int32 × Int32 × Hp) ⊕ ((Int32 × Int32 × Int32 × Int32 × Int32 × Int32 × Hp) ⊕ ((Int32 × Int32 × Int32 × Int32 × Int32 × Hp) ⊕ (Int32 × Hp))))) : Prop := Sum.elim (P_Mod_latest_53 G X) (O_Mod_latest_30 G X) t
theorem w_Mod_latest_114 {G : jG} {X : jX} (C : jC G X cX12_latest 10 RX12 179 4679) {v1 : Int32} {v2 : Int32} {v3 : Int32} {v4 : Int32} {v5 : Int32} {v6 : Int32} {v8 : Int32} {s0 : Int32} {h : Hp} {out : ((Int32 × Int32 × Int32 × Int32 × Int32 × Int32 × Int32 × Int32 × Hp) ⊕ ((Int32 × Int32 × Int32 × Int32 × Int32 × Int32 × Hp) ⊕ ((Int32 × Int32 × Int32 × Int32 × Int32 × Hp) ⊕ (Int32 × Hp))))} (O : (O_Mod_latest_53 G X) out) (hm : s_Mod_latest_114 v1 v2 v3 v4 v5 v6 v8 s0 h = some out) : J G X 114 [(0, .ref (G.1 + 84)), (1, .int v1), (2, .int v2), (3, .int v3), (4, .int v4), (5, .int v5), (6, .int v6), (8, .int v8)] [.int s0] h := by
  unfold s_Mod_latest_114 at hm
  refine j_istore C [(7, .int s0), (0, .ref (G.1 + 84)), (1, .int v1), (2, .int v2), (3, .int v3), (4, .int v4), (5, .int v5), (6, .int v6), (8, .int v8)] dX12_latest_114 (by decide) rfl ?_
  refine j_iinc C 8 [(8, .int (v8 + (1 : Int32))), (7, .int s0), (0, .ref (G.1 + 84)), (1, .int v1), (2, .int v2), (3, .int v3), (4, .int v4), (5, .int v5), (6, .int v6)] dX12_latest_116 rfl (add_lit (by decide)) (by decide) rfl ?_
  refine j_goto C 53 dX12_latest_119 (by decide) ?_
  obtain rfl := Option.some.inj hm
  refine j_sub (L' := [(0, .ref (G.1 + 84)), (1, .int v1), (2, .int v2), (3, .int v3), (4, .int v4), (5, .int v5), (6, .int v6), (7, .int s0), (8, .int (v8 + (1 : Int32)))]) [2, 3, 4, 5, 6, 7, 8, 1, 0] rfl ?_
  exact O
theorem w_Mod_latest_109 {G : jG} {X : jX} (C : jC G X cX12_latest 10 RX12 179 4679) {v1 : Int32} {v2 : Int32} {v3 : Int32} {v4 : Int32} {v5 : Int32} {v6 : Int32} {v8 : Int32} {h : Hp} {out : ((Int32 × Int32 × Int32 × Int32 × Int32 × Int32 × Int32 × Int32 × Hp) ⊕ ((Int32 × Int32 × Int32 × Int32 × Int32 × Int32 × Hp) ⊕ ((Int32 × Int32 × Int32 × Int32 × Int32 × Hp) ⊕ (Int32 × Hp))))} (O : (O_Mod_latest_53 G X) out) (hm : s_Mod_latest_109 v1 v2 v3 v4 v5 v6 v8 h = some out) : J G X 109 [(0, .ref (G.1 + 84)), (1, .int v1), (2, .int v2), (3, .int v3), (4, .int v4), (5, .int v5), (6, .int v6), (8, .int v8)] [] h := by
  unfold s_Mod_latest_109 at hm
  refine j_iconst C 1 dX12_latest_109 (by decide) ?_
  refine j_goto C 114 dX12_latest_110 (by decide) ?_
  refine j_sub (L' := [(0, .ref (G.1 + 84)), (1, .int v1), (2, .int v2), (3, .int v3), (4, .int v4), (5, .int v5), (6, .int v6), (8, .int v8)]) [0, 1, 2, 3, 4, 5, 6, 7] rfl ?_
  exact w_Mod_latest_114 C O hm
theorem w_Mod_latest_113 {G : jG} {X : jX} (C : jC G X cX12_latest 10 RX12 179 4679) {v1 : Int32} {v2 : Int32} {v3 : Int32} {v4 : Int32} {v5 : Int32} {v6 : Int32} {v8 : Int32} {h : Hp} {out : ((Int32 × Int32 × Int32 × Int32 × Int32 × Int32 × Int32 × Int32 × Hp) ⊕ ((Int32 × Int32 × Int32 × Int32 × Int32 × Int32 × Hp) ⊕ ((Int32 × Int32 × Int32 × Int32 × Int32 × Hp) ⊕ (Int32 × Hp))))} (O : (O_Mod_latest_53 G X) out) (hm : s_Mod_latest_113 v1 v2 v3 v4 v5 v6 v8 h = some out) : J G X 113 [(0, .ref (G.1 + 84)), (1, .int v1), (2, .int v2), (3, .int v3), (4, .int v4), (5, .int v5), (6, .int v6), (8, .int v8)] [] h := by
  unfold s_Mod_latest_113 at hm
  refine j_iconst C 0 dX12_latest_113 (by decide) ?_
  refine j_sub (L' := [(0, .ref (G.1 + 84)), (1, .int v1), (2, .int v2), (3, .int v3), (4, .int v4), (5, .int v5), (6, .int v6), (8, .int v8)]) [0, 1, 2, 3, 4, 5, 6, 7] rfl ?_
  exact w_Mod_latest_114 C O hm
theorem w_Mod_latest_160 {G : jG} {X : jX} (C : jC G X cX12_latest 10 RX12 179 4679) {v1 : Int32} {v2 : Int32} {v3 : Int32} {v4 : Int32} {v5 : Int32} {v6 : Int32} {s0 : Int32} {s1 : Int32} {h : Hp} {out : ((Int32 × Int32 × Int32 × Int32 × Int32 × Int32 × Hp) ⊕ ((Int32 × Int32 × Int32 × Int32 × Int32 × Hp) ⊕ (Int32 × Hp)))} (O : (O_Mod_latest_30 G X) out) (hm : s_Mod_latest_160 v1 v2 v3 v4 v5 v6 s0 s1 h = some out) : J G X 160 [(0, .ref (G.1 + 84)), (1, .int v1), (2, .int v2), (3, .int v3), (4, .int v4), (5, .int v5), (6, .int v6)] [.int s0, .int s1, .ref (G.1 + 101)] h := by
  unfold s_Mod_latest_160 at hm
  refine j_zast C n_101 hm dX12_latest_160 (fun hm => ?_)
  refine j_iinc C 6 [(6, .int (v6 + (1 : Int32))), (0, .ref (G.1 + 84)), (1, .int v1), (2, .int v2), (3, .int v3), (4, .int v4), (5, .int v5)] dX12_latest_161 rfl (add_lit (by decide)) (by decide) rfl ?_
  refine j_goto C 30 dX12_latest_164 (by decide) ?_
  obtain rfl := Option.some.inj hm
  refine j_sub (L' := [(0, .ref (G.1 + 84)), (1, .int v1), (2, .int v2), (3, .int v3), (4, .int v4), (5, .int v5), (6, .int (v6 + (1 : Int32)))]) [1, 2, 3, 4, 5, 6, 0] rfl ?_
  exact O
theorem w_Mod_latest_159 {G : jG} {X : jX} (C : jC G X cX12_latest 10 RX12 179 4679) {v1 : Int32} {v2 : Int32} {v3 : Int32} {v4 : Int32} {v5 : Int32} {v6 : Int32} {s0 : Int32} {h : Hp} {out : ((Int32 × Int32 × Int32 × Int32 × Int32 × Int32 × Hp) ⊕ ((Int32 × Int32 × Int32 × Int32 × Int32 × Hp) ⊕ (Int32 × Hp)))} (O : (O_Mod_latest_30 G X) out) (hm : s_Mod_latest_159 v1 v2 v3 v4 v5 v6 s0 h = some out) : J G X 159 [(0, .ref (G.1 + 84)), (1, .int v1), (2, .int v2), (3, .int v3), (4, .int v4), (5, .int v5), (6, .int v6)] [.int s0, .ref (G.1 + 101)] h := by
  unfold s_Mod_latest_159 at hm
  refine j_iconst C 0 dX12_latest_159 (by decide) ?_
  refine j_sub (L' := [(0, .ref (G.1 + 84)), (1, .int v1), (2, .int v2), (3, .int v3), (4, .int v4), (5, .int v5), (6, .int v6)]) [0, 1, 2, 3, 4, 5, 6] rfl ?_
  exact w_Mod_latest_160 C O hm
theorem w_Mod_latest_122 {G : jG} {X : jX} (C : jC G X cX12_latest 10 RX12 179 4679) {v1 : Int32} {v2 : Int32} {v3 : Int32} {v4 : Int32} {v5 : Int32} {v6 : Int32} {v7 : Int32} {h : Hp} {out : ((Int32 × Int32 × Int32 × Int32 × Int32 × Int32 × Hp) ⊕ ((Int32 × Int32 × Int32 × Int32 × Int32 × Hp) ⊕ (Int32 × Hp)))} (O : (O_Mod_latest_30 G X) out) (hm : s_Mod_latest_122 v1 v2 v3 v4 v5 v6 v7 h = some out) : J G X 122 [(0, .ref (G.1 + 84)), (1, .int v1), (2, .int v2), (3, .int v3), (4, .int v4), (5, .int v5), (6, .int v6), (7, .int v7)] [] h := by
  unfold s_Mod_latest_122 at hm
  refine j_aload_n C 0 dX12_latest_122 rfl rfl ?_
  refine j_gS C f_X12_73 n_84 q_84_31 dX12_latest_123 ?_
  refine j_bipush C 50 dX12_latest_126 (by decide) ?_
  refine j_iload C 5 dX12_latest_128 rfl ?_
  refine j_imul C dX12_latest_130 ?_
  refine j_iload C 6 dX12_latest_131 rfl ?_
  refine j_iadd C dX12_latest_133 ?_
  refine j_iload C 7 dX12_latest_134 rfl ?_
  refine j_ifeq C 159 dX12_latest_136 (by decide) hm (fun hm => ?_) (fun hm => ?_)
  · refine j_sub (L' := [(0, .ref (G.1 + 84)), (1, .int v1), (2, .int v2), (3, .int v3), (4, .int v4), (5, .int v5), (6, .int v6)]) [0, 1, 2, 3, 4, 5, 6] rfl ?_
    exact w_Mod_latest_159 C O hm
  · refine j_aload_n C 0 dX12_latest_139 rfl rfl ?_
    refine j_iload_n C 1 dX12_latest_140 rfl rfl ?_
    refine j_iload C 6 dX12_latest_141 rfl ?_
    refine j_iload C 5 dX12_latest_143 rfl ?_
    refine j_iconst C 0 dX12_latest_145 (by decide) ?_
    refine j_cS C l_X12_351 [.int v5, .int ((0 : Int32))] [.int v6, .int v1, .ref (G.1 + 84), .int ((((50 : Int32)) * v5) + v6), .ref (G.1 + 101)] (fun u1 => some (.int u1)) (fun _ => h) (fun u1 => [.int u1, .int v6, .int v1, .ref (G.1 + 84), .int ((((50 : Int32)) * v5) + v6), .ref (G.1 + 101)]) hm (fun l u hu => c_Mod_minuteOf hu) rfl (Nat.le_of_ble_eq_true rfl) rfl (Nat.le_of_ble_eq_true rfl) (Nat.le_of_ble_eq_true rfl) (fun _ => rfl) dX12_latest_146 (fun u1 hm => ?_)
    refine j_cV C l_X12_354 [.int v1, .int v6, .int u1] [.int ((((50 : Int32)) * v5) + v6), .ref (G.1 + 101)] (fun u2 => some (.int u2)) (fun _ => h) (fun u2 => [.int u2, .int ((((50 : Int32)) * v5) + v6), .ref (G.1 + 101)]) n_84 hm (fun l u hu => c_Mod_canBe hu) rfl (Nat.le_of_ble_eq_true rfl) rfl (Nat.le_of_ble_eq_true rfl) (Nat.le_of_ble_eq_true rfl) (fun _ => rfl) dX12_latest_149 (fun u2 hm => ?_)
    refine j_ifeq C 159 dX12_latest_152 (by decide) hm (fun hm => ?_) (fun hm => ?_)
    · refine j_sub (L' := [(0, .ref (G.1 + 84)), (1, .int v1), (2, .int v2), (3, .int v3), (4, .int v4), (5, .int v5), (6, .int v6)]) [0, 1, 2, 3, 4, 5, 6] rfl ?_
      exact w_Mod_latest_159 C O hm
    · refine j_iconst C 1 dX12_latest_155 (by decide) ?_
      refine j_goto C 160 dX12_latest_156 (by decide) ?_
      refine j_sub (L' := [(0, .ref (G.1 + 84)), (1, .int v1), (2, .int v2), (3, .int v3), (4, .int v4), (5, .int v5), (6, .int v6)]) [0, 1, 2, 3, 4, 5, 6] rfl ?_
      exact w_Mod_latest_160 C O hm
theorem w_Mod_latest_53 {G : jG} {X : jX} (C : jC G X cX12_latest 10 RX12 179 4679) {v1 : Int32} {v2 : Int32} {v3 : Int32} {v4 : Int32} {v5 : Int32} {v6 : Int32} {v7 : Int32} {v8 : Int32} {h : Hp} {out : ((Int32 × Int32 × Int32 × Int32 × Int32 × Int32 × Int32 × Int32 × Hp) ⊕ ((Int32 × Int32 × Int32 × Int32 × Int32 × Int32 × Hp) ⊕ ((Int32 × Int32 × Int32 × Int32 × Int32 × Hp) ⊕ (Int32 × Hp))))} (O : (O_Mod_latest_53 G X) out) (hm : s_Mod_latest_53 v1 v2 v3 v4 v5 v6 v7 v8 h = some out) : J G X 53 [(0, .ref (G.1 + 84)), (1, .int v1), (2, .int v2), (3, .int v3), (4, .int v4), (5, .int v5), (6, .int v6), (7, .int v7), (8, .int v8)] [] h := by
  unfold s_Mod_latest_53 at hm
  refine j_iload C 8 dX12_latest_53 rfl ?_
  refine j_iconst C 5 dX12_latest_55 (by decide) ?_
  refine j_if_icmpge C 122 dX12_latest_56 (by decide) hm (fun hm => ?_) (fun hm => ?_)
  · obtain ⟨o_0, hm_0, rfl⟩ := inr_inv hm
    refine j_sub (L' := [(0, .ref (G.1 + 84)), (1, .int v1), (2, .int v2), (3, .int v3), (4, .int v4), (5, .int v5), (6, .int v6), (7, .int v7)]) [0, 1, 2, 3, 4, 5, 6, 7] rfl ?_
    exact w_Mod_latest_122 C O hm_0
  · refine j_iload C 5 dX12_latest_59 rfl ?_
    refine j_iload C 4 dX12_latest_61 rfl ?_
    refine j_if_icmpge C 122 dX12_latest_63 (by decide) hm (fun hm => ?_) (fun hm => ?_)
    · obtain ⟨o_0, hm_0, rfl⟩ := inr_inv hm
      refine j_sub (L' := [(0, .ref (G.1 + 84)), (1, .int v1), (2, .int v2), (3, .int v3), (4, .int v4), (5, .int v5), (6, .int v6), (7, .int v7)]) [0, 1, 2, 3, 4, 5, 6, 7] rfl ?_
      exact w_Mod_latest_122 C O hm_0
    · refine j_aload_n C 0 dX12_latest_66 rfl rfl ?_
      refine j_iload_n C 1 dX12_latest_67 rfl rfl ?_
      refine j_iload C 6 dX12_latest_68 rfl ?_
      refine j_iload C 5 dX12_latest_70 rfl ?_
      refine j_iload C 8 dX12_latest_72 rfl ?_
      refine j_iconst C 0 dX12_latest_74 (by decide) ?_
      refine j_cV C l_X12_357 [.int v1, .int v6, .int v5, .int v8, .int ((0 : Int32))] [] (fun u1 => some (.int u1)) (fun _ => h) (fun u1 => [.int u1]) n_84 hm (fun l u hu => c_Mod_behind hu) rfl (Nat.le_of_ble_eq_true rfl) rfl (Nat.le_of_ble_eq_true rfl) (Nat.le_of_ble_eq_true rfl) (fun _ => rfl) dX12_latest_75 (fun u1 hm => ?_)
      refine j_istore C [(9, .int u1), (0, .ref (G.1 + 84)), (1, .int v1), (2, .int v2), (3, .int v3), (4, .int v4), (5, .int v5), (6, .int v6), (7, .int v7), (8, .int v8)] dX12_latest_78 (by decide) rfl ?_
      refine j_iload C 8 dX12_latest_80 rfl ?_
      refine j_ifne C 109 dX12_latest_82 (by decide) hm (fun hm => ?_) (fun hm => ?_)
      · refine j_iload C 0 dX12_latest_85 rfl ?_
        refine j_iconst C (-1 : Int32) dX12_latest_87 (by decide) ?_
        refine j_if_icmpeq C 113 dX12_latest_88 (by decide) hm (fun hm => ?_) (fun hm => ?_)
        · refine j_sub (L' := [(0, .ref (G.1 + 84)), (1, .int v1), (2, .int v2), (3, .int v3), (4, .int v4), (5, .int v5), (6, .int v6), (8, .int v8)]) [1, 2, 3, 4, 5, 6, 7, 9] rfl ?_
          exact w_Mod_latest_113 C O hm
        · refine j_aload_n C 1 dX12_latest_91 rfl rfl ?_
          refine j_gS C f_X12_73 n_84 q_84_31 dX12_latest_92 ?_
          refine j_bipush C 50 dX12_latest_95 (by decide) ?_
          refine j_iload C 6 dX12_latest_97 rfl ?_
          refine j_iconst C 1 dX12_latest_99 (by decide) ?_
          refine j_iadd C dX12_latest_100 ?_
          refine j_imul C dX12_latest_101 ?_
          refine j_iload C 0 dX12_latest_102 rfl ?_
          refine j_iadd C dX12_latest_104 ?_
          refine j_zald C n_101 hm dX12_latest_105 (fun hm => ?_)
          refine j_ifeq C 113 dX12_latest_106 (by decide) hm (fun hm => ?_) (fun hm => ?_)
          · refine j_sub (L' := [(0, .ref (G.1 + 84)), (1, .int v1), (2, .int v2), (3, .int v3), (4, .int v4), (5, .int v5), (6, .int v6), (8, .int v8)]) [1, 2, 3, 4, 5, 6, 7, 9] rfl ?_
            exact w_Mod_latest_113 C O hm
          · refine j_sub (L' := [(0, .ref (G.1 + 84)), (1, .int v1), (2, .int v2), (3, .int v3), (4, .int v4), (5, .int v5), (6, .int v6), (8, .int v8)]) [1, 2, 3, 4, 5, 6, 7, 9] rfl ?_
            exact w_Mod_latest_109 C O hm
      · refine j_sub (L' := [(0, .ref (G.1 + 84)), (1, .int v1), (2, .int v2), (3, .int v3), (4, .int v4), (5, .int v5), (6, .int v6), (8, .int v8)]) [1, 2, 3, 4, 5, 6, 7, 9] rfl ?_
        exact w_Mod_latest_109 C O hm
theorem k_Mod_latest_53 {G : jG} {X : jX} (C : jC G X cX12_latest 10 RX12 179 4679) {v1 : Int32} {v2 : Int32} {v3 : Int32} {v4 : Int32} {v5 : Int32} {v6 : Int32} {v7 : Int32} {v8 : Int32} {h : Hp} {out : ((Int32 × Int32 × Int32 × Int32 × Int32 × Int32 × Hp) ⊕ ((Int32 × Int32 × Int32 × Int32 × Int32 × Hp) ⊕ (Int32 × Hp)))} (O : (O_Mod_latest_30 G X) out) (hm : lp (fun q => s_Mod_latest_53 q.1 q.2.1 q.2.2.1 q.2.2.2.1 q.2.2.2.2.1 q.2.2.2.2.2.1 q.2.2.2.2.2.2.1 q.2.2.2.2.2.2.2.1 q.2.2.2.2.2.2.2.2) (v1, v2, v3, v4, v5, v6, v7, v8, h) = some out) : J G X 53 [(0, .ref (G.1 + 84)), (1, .int v1), (2, .int v2), (3, .int v3), (4, .int v4), (5, .int v5), (6, .int v6), (7, .int v7), (8, .int v8)] [] h :=
  lp_ok (P := P_Mod_latest_53 G X) (O := (O_Mod_latest_30 G X)) (fun q r hm O => w_Mod_latest_53 C O hm) hm O
theorem w_Mod_latest_48 {G : jG} {X : jX} (C : jC G X cX12_latest 10 RX12 179 4679) {v1 : Int32} {v2 : Int32} {v3 : Int32} {v4 : Int32} {v5 : Int32} {v6 : Int32} {s0 : Int32} {h : Hp} {out : ((Int32 × Int32 × Int32 × Int32 × Int32 × Int32 × Hp) ⊕ ((Int32 × Int32 × Int32 × Int32 × Int32 × Hp) ⊕ (Int32 × Hp)))} (O : (O_Mod_latest_30 G X) out) (hm : s_Mod_latest_48 v1 v2 v3 v4 v5 v6 s0 h = some out) : J G X 48 [(0, .ref (G.1 + 84)), (1, .int v1), (2, .int v2), (3, .int v3), (4, .int v4), (5, .int v5), (6, .int v6)] [.int s0] h := by
  unfold s_Mod_latest_48 at hm
  refine j_istore C [(7, .int s0), (0, .ref (G.1 + 84)), (1, .int v1), (2, .int v2), (3, .int v3), (4, .int v4), (5, .int v5), (6, .int v6)] dX12_latest_48 (by decide) rfl ?_
  refine j_iconst C 0 dX12_latest_50 (by decide) ?_
  refine j_istore C [(8, .int ((0 : Int32))), (7, .int s0), (0, .ref (G.1 + 84)), (1, .int v1), (2, .int v2), (3, .int v3), (4, .int v4), (5, .int v5), (6, .int v6)] dX12_latest_51 (by decide) rfl ?_
  refine j_sub (L' := [(0, .ref (G.1 + 84)), (1, .int v1), (2, .int v2), (3, .int v3), (4, .int v4), (5, .int v5), (6, .int v6), (7, .int s0), (8, .int ((0 : Int32)))]) [2, 3, 4, 5, 6, 7, 8, 1, 0] rfl ?_
  exact k_Mod_latest_53 C O hm
theorem w_Mod_latest_30 {G : jG} {X : jX} (C : jC G X cX12_latest 10 RX12 179 4679) {v1 : Int32} {v2 : Int32} {v3 : Int32} {v4 : Int32} {v5 : Int32} {v6 : Int32} {h : Hp} {out : ((Int32 × Int32 × Int32 × Int32 × Int32 × Int32 × Hp) ⊕ ((Int32 × Int32 × Int32 × Int32 × Int32 × Hp) ⊕ (Int32 × Hp)))} (O : (O_Mod_latest_30 G X) out) (hm : s_Mod_latest_30 v1 v2 v3 v4 v5 v6 h = some out) : J G X 30 [(0, .ref (G.1 + 84)), (1, .int v1), (2, .int v2), (3, .int v3), (4, .int v4), (5, .int v5), (6, .int v6)] [] h := by
  unfold s_Mod_latest_30 at hm
  refine j_iload C 6 dX12_latest_30 rfl ?_
  refine j_bipush C 50 dX12_latest_32 (by decide) ?_
  refine j_if_icmpge C 167 dX12_latest_34 (by decide) hm (fun hm => ?_) (fun hm => ?_)
  · refine j_aload_n C 0 dX12_latest_167 rfl rfl ?_
    refine j_gS C f_X12_73 n_84 q_84_31 dX12_latest_168 ?_
    refine j_bipush C 50 dX12_latest_171 (by decide) ?_
    refine j_iload C 5 dX12_latest_173 rfl ?_
    refine j_imul C dX12_latest_175 ?_
    refine j_iload_n C 2 dX12_latest_176 rfl rfl ?_
    refine j_iadd C dX12_latest_177 ?_
    refine j_zald C n_101 hm dX12_latest_178 (fun hm => ?_)
    refine j_ifeq C 185 dX12_latest_179 (by decide) hm (fun hm => ?_) (fun hm => ?_)
    · refine j_iinc C 5 [(5, .int (v5 + (-1 : Int32))), (0, .ref (G.1 + 84)), (1, .int v1), (2, .int v2), (3, .int v3), (4, .int v4), (6, .int v6)] dX12_latest_185 rfl (add_lit (by decide)) (by decide) rfl ?_
      refine j_goto C 22 dX12_latest_188 (by decide) ?_
      obtain rfl := Option.some.inj hm
      refine j_sub (L' := [(0, .ref (G.1 + 84)), (1, .int v1), (2, .int v2), (3, .int v3), (4, .int v4), (5, .int (v5 + (-1 : Int32)))]) [1, 2, 3, 4, 5, 0] rfl ?_
      exact O
    · refine j_iload C 5 dX12_latest_182 rfl ?_
      obtain rfl := Option.some.inj hm
      exact j_iret C O dX12_latest_184
  · refine j_iload C 6 dX12_latest_37 rfl ?_
    refine j_iload_n C 3 dX12_latest_39 rfl rfl ?_
    refine j_if_icmpne C 47 dX12_latest_40 (by decide) hm (fun hm => ?_) (fun hm => ?_)
    · refine j_iconst C 1 dX12_latest_43 (by decide) ?_
      refine j_goto C 48 dX12_latest_44 (by decide) ?_
      refine j_sub (L' := [(0, .ref (G.1 + 84)), (1, .int v1), (2, .int v2), (3, .int v3), (4, .int v4), (5, .int v5), (6, .int v6)]) [0, 1, 2, 3, 4, 5, 6] rfl ?_
      exact w_Mod_latest_48 C O hm
    · refine j_iconst C 0 dX12_latest_47 (by decide) ?_
      refine j_sub (L' := [(0, .ref (G.1 + 84)), (1, .int v1), (2, .int v2), (3, .int v3), (4, .int v4), (5, .int v5), (6, .int v6)]) [0, 1, 2, 3, 4, 5, 6] rfl ?_
      exact w_Mod_latest_48 C O hm
theorem k_Mod_latest_30 {G : jG} {X : jX} (C : jC G X cX12_latest 10 RX12 179 4679) {v1 : Int32} {v2 : Int32} {v3 : Int32} {v4 : Int32} {v5 : Int32} {v6 : Int32} {h : Hp} {out : ((Int32 × Int32 × Int32 × Int32 × Int32 × Hp) ⊕ (Int32 × Hp))} (O : (O_Mod_latest_22 G X) out) (hm : lp (fun q => s_Mod_latest_30 q.1 q.2.1 q.2.2.1 q.2.2.2.1 q.2.2.2.2.1 q.2.2.2.2.2.1 q.2.2.2.2.2.2) (v1, v2, v3, v4, v5, v6, h) = some out) : J G X 30 [(0, .ref (G.1 + 84)), (1, .int v1), (2, .int v2), (3, .int v3), (4, .int v4), (5, .int v5), (6, .int v6)] [] h :=
  lp_ok (P := P_Mod_latest_30 G X) (O := (O_Mod_latest_22 G X)) (fun q r hm O => w_Mod_latest_30 C O hm) hm O
theorem w_Mod_latest_22 {G : jG} {X : jX} (C : jC G X cX12_latest 10 RX12 179 4679) {v1 : Int32} {v2 : Int32} {v3 : Int32} {v4 : Int32} {v5 : Int32} {h : Hp} {out : ((Int32 × Int32 × Int32 × Int32 × Int32 × Hp) ⊕ (Int32 × Hp))} (O : (O_Mod_latest_22 G X) out) (hm : s_Mod_latest_22 v1 v2 v3 v4 v5 h = some out) : J G X 22 [(0, .ref (G.1 + 84)), (1, .int v1), (2, .int v2), (3, .int v3), (4, .int v4), (5, .int v5)] [] h := by
  unfold s_Mod_latest_22 at hm
  refine j_iload C 5 dX12_latest_22 rfl ?_
  refine j_iflt C 191 dX12_latest_24 (by decide) hm (fun hm => ?_) (fun hm => ?_)
  · refine j_iconst C (-1 : Int32) dX12_latest_191 (by decide) ?_
    obtain rfl := Option.some.inj hm
    exact j_iret C O dX12_latest_192
  · refine j_iconst C 0 dX12_latest_27 (by decide) ?_
    refine j_istore C [(6, .int ((0 : Int32))), (0, .ref (G.1 + 84)), (1, .int v1), (2, .int v2), (3, .int v3), (4, .int v4), (5, .int v5)] dX12_latest_28 (by decide) rfl ?_
    refine j_sub (L' := [(0, .ref (G.1 + 84)), (1, .int v1), (2, .int v2), (3, .int v3), (4, .int v4), (5, .int v5), (6, .int ((0 : Int32)))]) [1, 2, 3, 4, 5, 6, 0] rfl ?_
    exact k_Mod_latest_30 C O hm
theorem k_Mod_latest_22 {G : jG} {X : jX} (C : jC G X cX12_latest 10 RX12 179 4679) {v1 : Int32} {v2 : Int32} {v3 : Int32} {v4 : Int32} {v5 : Int32} {h : Hp} {out : (Int32 × Hp)} (O : (O_Mod_latest G X) out) (hm : lp (fun q => s_Mod_latest_22 q.1 q.2.1 q.2.2.1 q.2.2.2.1 q.2.2.2.2.1 q.2.2.2.2.2) (v1, v2, v3, v4, v5, h) = some out) : J G X 22 [(0, .ref (G.1 + 84)), (1, .int v1), (2, .int v2), (3, .int v3), (4, .int v4), (5, .int v5)] [] h :=
  lp_ok (P := P_Mod_latest_22 G X) (O := (O_Mod_latest G X)) (fun q r hm O => w_Mod_latest_22 C O hm) hm O
theorem w_Mod_latest {G : jG} {X : jX} (C : jC G X cX12_latest 10 RX12 179 4679) {v1 : Int32} {v2 : Int32} {v3 : Int32} {v4 : Int32} {h : Hp} {out : (Int32 × Hp)} (O : (O_Mod_latest G X) out) (hm : s_Mod_latest v1 v2 v3 v4 h = some out) : J G X 0 [(0, .ref (G.1 + 84)), (1, .int v1), (2, .int v2), (3, .int v3), (4, .int v4)] [] h := by
  unfold s_Mod_latest at hm
  refine j_aload_n C 0 dX12_latest_0 rfl rfl ?_
  refine j_iload_n C 1 dX12_latest_1 rfl rfl ?_
  refine j_iload C 4 dX12_latest_2 rfl ?_
  refine j_iload_n C 2 dX12_latest_4 rfl rfl ?_
  refine j_iload_n C 3 dX12_latest_5 rfl rfl ?_
  refine j_cV C l_X12_367 [.int v1, .int v4, .int v2, .int v3] [] (fun u1 => some (.int u1)) (fun _ => h) (fun u1 => [.int u1]) n_84 hm (fun l u hu => c_Mod_isWay hu) rfl (Nat.le_of_ble_eq_true rfl) rfl (Nat.le_of_ble_eq_true rfl) (Nat.le_of_ble_eq_true rfl) (fun _ => rfl) dX12_latest_6 (fun u1 hm => ?_)
  refine j_ifne C 14 dX12_latest_9 (by decide) hm (fun hm => ?_) (fun hm => ?_)
  · refine j_iconst C (-1 : Int32) dX12_latest_12 (by decide) ?_
    obtain rfl := Option.some.inj hm
    exact j_iret C O dX12_latest_13
  · refine j_aload_n C 0 dX12_latest_14 rfl rfl ?_
    refine j_cV C l_X12_321 [] [] (fun _ => none) (fun u2 => u2) (fun u2 => []) n_84 hm (fun l u hu => c_Mod_looks hu) rfl (Nat.le_of_ble_eq_true rfl) rfl (Nat.le_of_ble_eq_true rfl) (Nat.le_of_ble_eq_true rfl) (fun _ => rfl) dX12_latest_15 (fun u2 hm => ?_)
    refine j_iload C 4 dX12_latest_18 rfl ?_
    refine j_istore C [(5, .int v4), (0, .ref (G.1 + 84)), (1, .int v1), (2, .int v2), (3, .int v3), (4, .int v4)] dX12_latest_20 (by decide) rfl ?_
    refine j_sub (L' := [(0, .ref (G.1 + 84)), (1, .int v1), (2, .int v2), (3, .int v3), (4, .int v4), (5, .int v4)]) [1, 2, 3, 4, 5, 0] rfl ?_
    exact k_Mod_latest_22 C O hm
theorem c_Mod_latest {G : jG} {l : Launch} {v1 : Int32} {v2 : Int32} {v3 : Int32} {v4 : Int32} {h : Hp} {out : (Int32 × Hp)} (hm : s_Mod_latest v1 v2 v3 v4 h = some out) : mt G l yX12_latest cX12_latest 10 (some .int) 179 4679 [.ref (G.1 + 84), .int v1, .int v2, .int v3, .int v4] h (some (.int out.1)) out.2 :=
  mt_of (by decide) (Nat.le_of_ble_eq_true rfl) _ rfl (fun X I C O => w_Mod_latest C O hm)
noncomputable def s_Mod_takes0_40 (v2 : Int32) (h : Hp) : Option (Int32 × Hp) :=
  bz v2 <| some (v2, h)
noncomputable def s_Mod_takes0_25 (s0 : Int32) (h : Hp) : Option (Int32 × Hp) :=
  if s0 = 0 then
    s_Mod_takes0_40 s0 h
  else
    s_Mod_takes0_40 s0 (sI h 84 16 ((hI h 84 16) + ((1 : Int32))))
noncomputable def s_Mod_takes0_24 (h : Hp) : Option (Int32 × Hp) :=
  s_Mod_takes0_25 ((0 : Int32)) h
noncomputable def s_Mod_takes0 (v1 : Int32) (h : Hp) : Option (Int32 × Hp) :=
  (s_Mod_fine h).bind fun u1 => if u1 = 0 then
    s_Mod_takes0_24 h
  else
    ib (hI h 84 16) 401 <| if (hI h 92 (ix (hI h 84 16))) = v1 then
      s_Mod_takes0_25 ((1 : Int32)) h
    else
      s_Mod_takes0_24 h
def O_Mod_takes0 (G : jG) (X : jX) (out : (Int32 × Hp)) : Prop := jO G X (some .boolean) (some (.int out.1)) out.2
theorem w_Mod_takes0_40 {G : jG} {X : jX} (C : jC G X cX12_takes0 3 RX12 2 90) {v2 : Int32} {h : Hp} {out : (Int32 × Hp)} (O : (O_Mod_takes0 G X) out) (hm : s_Mod_takes0_40 v2 h = some out) : J G X 40 [(2, .int v2)] [] h := by
  unfold s_Mod_takes0_40 at hm
  refine j_iload_n C 0 dX12_takes0_40 rfl rfl ?_
  obtain ⟨cz, hm⟩ := bz_inv hm
  obtain rfl := Option.some.inj hm
  exact j_zret C O cz dX12_takes0_41
theorem w_Mod_takes0_25 {G : jG} {X : jX} (C : jC G X cX12_takes0 3 RX12 2 90) {s0 : Int32} {h : Hp} {out : (Int32 × Hp)} (O : (O_Mod_takes0 G X) out) (hm : s_Mod_takes0_25 s0 h = some out) : J G X 25 [(0, .ref (G.1 + 84))] [.int s0] h := by
  unfold s_Mod_takes0_25 at hm
  refine j_istore_n C [(2, .int s0), (0, .ref (G.1 + 84))] dX12_takes0_25 rfl (by decide) rfl ?_
  refine j_iload_n C 0 dX12_takes0_26 rfl rfl ?_
  refine j_ifeq C 40 dX12_takes0_27 (by decide) hm (fun hm => ?_) (fun hm => ?_)
  · refine j_sub (L' := [(2, .int s0)]) [0] rfl ?_
    exact w_Mod_takes0_40 C O hm
  · refine j_aload_n C 1 dX12_takes0_30 rfl rfl ?_
    refine j_dup C dX12_takes0_31 rfl ?_
    refine j_gI C f_X12_165 n_84 dX12_takes0_32 ?_
    refine j_iconst C 1 dX12_takes0_35 (by decide) ?_
    refine j_iadd C dX12_takes0_36 ?_
    refine j_pI C f_X12_165 n_84 dX12_takes0_37 ?_
    refine j_sub (L' := [(2, .int s0)]) [0] rfl ?_
    exact w_Mod_takes0_40 C O hm
theorem w_Mod_takes0_24 {G : jG} {X : jX} (C : jC G X cX12_takes0 3 RX12 2 90) {h : Hp} {out : (Int32 × Hp)} (O : (O_Mod_takes0 G X) out) (hm : s_Mod_takes0_24 h = some out) : J G X 24 [(0, .ref (G.1 + 84))] [] h := by
  unfold s_Mod_takes0_24 at hm
  refine j_iconst C 0 dX12_takes0_24 (by decide) ?_
  refine j_sub (L' := [(0, .ref (G.1 + 84))]) [0] rfl ?_
  exact w_Mod_takes0_25 C O hm
theorem w_Mod_takes0 {G : jG} {X : jX} (C : jC G X cX12_takes0 3 RX12 2 90) {v1 : Int32} {h : Hp} {out : (Int32 × Hp)} (O : (O_Mod_takes0 G X) out) (hm : s_Mod_takes0 v1 h = some out) : J G X 0 [(0, .ref (G.1 + 84)), (1, .int v1)] [] h := by
  unfold s_Mod_takes0 at hm
  refine j_aload_n C 0 dX12_takes0_0 rfl rfl ?_
  refine j_cV C l_X12_161 [] [] (fun u1 => some (.int u1)) (fun _ => h) (fun u1 => [.int u1]) n_84 hm (fun l u hu => c_Mod_fine hu) rfl (Nat.le_of_ble_eq_true rfl) rfl (Nat.le_of_ble_eq_true rfl) (Nat.le_of_ble_eq_true rfl) (fun _ => rfl) dX12_takes0_1 (fun u1 hm => ?_)
  refine j_ifeq C 24 dX12_takes0_4 (by decide) hm (fun hm => ?_) (fun hm => ?_)
  · refine j_sub (L' := [(0, .ref (G.1 + 84))]) [0] rfl ?_
    exact w_Mod_takes0_24 C O hm
  · refine j_aload_n C 0 dX12_takes0_7 rfl rfl ?_
    refine j_gS C f_X12_43 n_84 q_84_12 dX12_takes0_8 ?_
    refine j_aload_n C 0 dX12_takes0_11 rfl rfl ?_
    refine j_gI C f_X12_165 n_84 dX12_takes0_12 ?_
    refine j_iald C n_92 hm dX12_takes0_15 (fun hm => ?_)
    refine j_iload_n C 1 dX12_takes0_16 rfl rfl ?_
    refine j_if_icmpne C 24 dX12_takes0_17 (by decide) hm (fun hm => ?_) (fun hm => ?_)
    · refine j_iconst C 1 dX12_takes0_20 (by decide) ?_
      refine j_goto C 25 dX12_takes0_21 (by decide) ?_
      refine j_sub (L' := [(0, .ref (G.1 + 84))]) [0] rfl ?_
      exact w_Mod_takes0_25 C O hm
    · refine j_sub (L' := [(0, .ref (G.1 + 84))]) [0] rfl ?_
      exact w_Mod_takes0_24 C O hm
theorem c_Mod_takes0 {G : jG} {l : Launch} {v1 : Int32} {h : Hp} {out : (Int32 × Hp)} (hm : s_Mod_takes0 v1 h = some out) : mt G l yX12_takes0 cX12_takes0 3 (some .boolean) 2 90 [.ref (G.1 + 84), .int v1] h (some (.int out.1)) out.2 :=
  mt_of (by decide) (Nat.le_of_ble_eq_true rfl) _ rfl (fun X I C O => w_Mod_takes0 C O hm)
noncomputable def s_Mod_must_12 (h : Hp) : Option Hp :=
  some h
noncomputable def s_Mod_must (v1 : Int32) (h : Hp) : Option Hp :=
  (s_Mod_takes0 v1 h).bind fun u1 => if u1.1 = 0 then
    (s_Mod_faults u1.2).bind fun u2 => s_Mod_must_12 u2
  else
    s_Mod_must_12 u1.2
def O_Mod_must (G : jG) (X : jX) (out : Hp) : Prop := jO G X (none) none out
theorem w_Mod_must_12 {G : jG} {X : jX} (C : jC G X cX12_must 2 RX12 3 112) {h : Hp} {out : Hp} (O : (O_Mod_must G X) out) (hm : s_Mod_must_12 h = some out) : J G X 12 [] [] h := by
  unfold s_Mod_must_12 at hm
  obtain rfl := Option.some.inj hm
  exact j_vret C O dX12_must_12
theorem w_Mod_must {G : jG} {X : jX} (C : jC G X cX12_must 2 RX12 3 112) {v1 : Int32} {h : Hp} {out : Hp} (O : (O_Mod_must G X) out) (hm : s_Mod_must v1 h = some out) : J G X 0 [(0, .ref (G.1 + 84)), (1, .int v1)] [] h := by
  unfold s_Mod_must at hm
  refine j_aload_n C 0 dX12_must_0 rfl rfl ?_
  refine j_iload_n C 1 dX12_must_1 rfl rfl ?_
  refine j_cV C l_X12_168 [.int v1] [] (fun u1 => some (.int u1.1)) (fun u1 => u1.2) (fun u1 => [.int u1.1]) n_84 hm (fun l u hu => c_Mod_takes0 hu) rfl (Nat.le_of_ble_eq_true rfl) rfl (Nat.le_of_ble_eq_true rfl) (Nat.le_of_ble_eq_true rfl) (fun _ => rfl) dX12_must_2 (fun u1 hm => ?_)
  refine j_ifne C 12 dX12_must_5 (by decide) hm (fun hm => ?_) (fun hm => ?_)
  · refine j_aload_n C 0 dX12_must_8 rfl rfl ?_
    refine j_cV C l_X12_171 [] [] (fun _ => none) (fun u2 => u2) (fun u2 => []) n_84 hm (fun l u hu => c_Mod_faults hu) rfl (Nat.le_of_ble_eq_true rfl) rfl (Nat.le_of_ble_eq_true rfl) (Nat.le_of_ble_eq_true rfl) (fun _ => rfl) dX12_must_9 (fun u2 hm => ?_)
    refine j_sub (L' := []) [] rfl ?_
    exact w_Mod_must_12 C O hm
  · refine j_sub (L' := []) [] rfl ?_
    exact w_Mod_must_12 C O hm
theorem c_Mod_must {G : jG} {l : Launch} {v1 : Int32} {h : Hp} {out : Hp} (hm : s_Mod_must v1 h = some out) : mt G l yX12_must cX12_must 2 (none) 3 112 [.ref (G.1 + 84), .int v1] h none out :=
  mt_of (by decide) (Nat.le_of_ble_eq_true rfl) _ rfl (fun X I C O => w_Mod_must C O hm)
noncomputable def s_Mod_leaf_40 (h : Hp) : Option Hp :=
  some h
noncomputable def s_Mod_leaf_13 (h : Hp) : Option Hp :=
  (s_Mod_fine (sI h 84 17 ((hI h 84 17) + ((1 : Int32))))).bind fun u1 => if u1 = 0 then
    s_Mod_leaf_40 (sI h 84 17 ((hI h 84 17) + ((1 : Int32))))
  else
    lt (sI h 84 17 ((hI h 84 17) + ((1 : Int32)))) fun h2 => s_Mod_leaf_40 (sI h2 84 16 ((hI h2 84 16) + ((1 : Int32))))
noncomputable def s_Mod_leaf (h : Hp) : Option Hp :=
  if (hI h 84 17) = ((50 : Int32)) then
    (s_Mod_faults h).bind fun u1 => s_Mod_leaf_13 u1
  else
    s_Mod_leaf_13 h
def O_Mod_leaf (G : jG) (X : jX) (out : Hp) : Prop := jO G X (none) none out
theorem w_Mod_leaf_40 {G : jG} {X : jX} (C : jC G X cX12_leaf 1 RX12 3 110) {h : Hp} {out : Hp} (O : (O_Mod_leaf G X) out) (hm : s_Mod_leaf_40 h = some out) : J G X 40 [] [] h := by
  unfold s_Mod_leaf_40 at hm
  obtain rfl := Option.some.inj hm
  exact j_vret C O dX12_leaf_40
theorem w_Mod_leaf_13 {G : jG} {X : jX} (C : jC G X cX12_leaf 1 RX12 3 110) {h : Hp} {out : Hp} (O : (O_Mod_leaf G X) out) (hm : s_Mod_leaf_13 h = some out) : J G X 13 [(0, .ref (G.1 + 84))] [] h := by
  unfold s_Mod_leaf_13 at hm
  refine j_aload_n C 0 dX12_leaf_13 rfl rfl ?_
  refine j_dup C dX12_leaf_14 rfl ?_
  refine j_gI C f_X12_174 n_84 dX12_leaf_15 ?_
  refine j_iconst C 1 dX12_leaf_18 (by decide) ?_
  refine j_iadd C dX12_leaf_19 ?_
  refine j_pI C f_X12_174 n_84 dX12_leaf_20 ?_
  refine j_aload_n C 0 dX12_leaf_23 rfl rfl ?_
  refine j_cV C l_X12_161 [] [] (fun u1 => some (.int u1)) (fun _ => sI h 84 17 ((hI h 84 17) + ((1 : Int32)))) (fun u1 => [.int u1]) n_84 hm (fun l u hu => c_Mod_fine hu) rfl (Nat.le_of_ble_eq_true rfl) rfl (Nat.le_of_ble_eq_true rfl) (Nat.le_of_ble_eq_true rfl) (fun _ => rfl) dX12_leaf_24 (fun u1 hm => ?_)
  refine j_ifeq C 40 dX12_leaf_27 (by decide) hm (fun hm => ?_) (fun hm => ?_)
  · refine j_sub (L' := []) [] rfl ?_
    exact w_Mod_leaf_40 C O hm
  · refine j_aload_n C 0 dX12_leaf_30 rfl rfl ?_
    refine j_dup C dX12_leaf_31 rfl ?_
    refine j_nmH hm (fun h2 hm => ?_)
    refine j_gI C f_X12_165 n_84 dX12_leaf_32 ?_
    refine j_iconst C 1 dX12_leaf_35 (by decide) ?_
    refine j_iadd C dX12_leaf_36 ?_
    refine j_pI C f_X12_165 n_84 dX12_leaf_37 ?_
    refine j_sub (L' := []) [] rfl ?_
    exact w_Mod_leaf_40 C O hm
theorem w_Mod_leaf {G : jG} {X : jX} (C : jC G X cX12_leaf 1 RX12 3 110) {h : Hp} {out : Hp} (O : (O_Mod_leaf G X) out) (hm : s_Mod_leaf h = some out) : J G X 0 [(0, .ref (G.1 + 84))] [] h := by
  unfold s_Mod_leaf at hm
  refine j_aload_n C 0 dX12_leaf_0 rfl rfl ?_
  refine j_gI C f_X12_174 n_84 dX12_leaf_1 ?_
  refine j_bipush C 50 dX12_leaf_4 (by decide) ?_
  refine j_if_icmpne C 13 dX12_leaf_6 (by decide) hm (fun hm => ?_) (fun hm => ?_)
  · refine j_aload_n C 0 dX12_leaf_9 rfl rfl ?_
    refine j_cV C l_X12_171 [] [] (fun _ => none) (fun u1 => u1) (fun u1 => []) n_84 hm (fun l u hu => c_Mod_faults hu) rfl (Nat.le_of_ble_eq_true rfl) rfl (Nat.le_of_ble_eq_true rfl) (Nat.le_of_ble_eq_true rfl) (fun _ => rfl) dX12_leaf_10 (fun u1 hm => ?_)
    refine j_sub (L' := [(0, .ref (G.1 + 84))]) [0] rfl ?_
    exact w_Mod_leaf_13 C O hm
  · refine j_sub (L' := [(0, .ref (G.1 + 84))]) [0] rfl ?_
    exact w_Mod_leaf_13 C O hm
theorem c_Mod_leaf {G : jG} {l : Launch} {h : Hp} {out : Hp} (hm : s_Mod_leaf h = some out) : mt G l yX12_leaf cX12_leaf 1 (none) 3 110 [.ref (G.1 + 84)] h none out :=
  mt_of (by decide) (Nat.le_of_ble_eq_true rfl) _ rfl (fun X I C O => w_Mod_leaf C O hm)
