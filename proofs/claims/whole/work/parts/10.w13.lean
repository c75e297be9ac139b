noncomputable def s_Mod_lost_52 (h : Hp) : Option (Int32 × Hp) :=
  some ((-1 : Int32), h)
noncomputable def s_Mod_lost_85 (v1 : Int32) (v2 : Int32) (v3 : Int32) (v4 : Int32) (v5 : Int32) (s0 : Int64) (s1 : Int32) (h : Hp) : Option ((Int32 × Int32 × Int32 × Int32 × Int32 × Hp) ⊕ (Int32 × Hp)) :=
  ib s1 52 <| some (.inl (v1, v2, v3, v4, (v5 + (1 : Int32)), (sL h 111 (ix s1) s0)))
noncomputable def s_Mod_lost_142 (v2 : Int32) (v3 : Int32) (v4 : Int32) (v5 : Int64) (v7 : Int32) (v8 : Int32) (s0 : Int64) (s1 : Int32) (h : Hp) : Option ((Int32 × Int32 × Int32 × Int64 × Int32 × Int32 × Hp) ⊕ ((Int32 × Int32 × Int32 × Int64 × Int32 × Hp) ⊕ (Int32 × Hp))) :=
  ib s1 52 <| some (.inl (v2, v3, v4, v5, v7, (v8 + (1 : Int32)), (sL h 112 (ix s1) s0)))
noncomputable def s_Mod_lost_346 (v2 : Int32) (v3 : Int32) (v4 : Int32) (v5 : Int64) (v7 : Int32) (v8 : Int32) (h : Hp) : Option ((Int32 × Int32 × Int32 × Int64 × Int32 × Int32 × Hp) ⊕ ((Int32 × Int32 × Int32 × Int64 × Int32 × Hp) ⊕ (Int32 × Hp))) :=
  some (.inl (v2, v3, v4, v5, v7, (v8 + (1 : Int32)), h))
noncomputable def s_Mod_lost_328 (v2 : Int32) (v3 : Int32) (v4 : Int32) (v5 : Int64) (v7 : Int32) (v8 : Int32) (v10 : Int32) (s0 : Int32) (h : Hp) : Option ((Int32 × Int32 × Int32 × Int64 × Int32 × Int32 × Hp) ⊕ ((Int32 × Int32 × Int32 × Int64 × Int32 × Hp) ⊕ (Int32 × Hp))) :=
  ib v8 52 <| (s_Mod_goes s0 ((hL h 111 (ix v8)) * (((100 : Int64)) - (Int32.toInt64 v10))) h).bind fun u1 => s_Mod_lost_346 v2 v3 v4 v5 v7 v8 u1
noncomputable def s_Mod_lost_292 (v2 : Int32) (v3 : Int32) (v4 : Int32) (v5 : Int64) (v7 : Int32) (v8 : Int32) (v10 : Int32) (s0 : Int32) (h : Hp) : Option ((Int32 × Int32 × Int32 × Int64 × Int32 × Int32 × Hp) ⊕ ((Int32 × Int32 × Int32 × Int64 × Int32 × Hp) ⊕ (Int32 × Hp))) :=
  ib v8 52 <| (s_Mod_goes s0 ((hL h 111 (ix v8)) * (((100 : Int64)) - (Int32.toInt64 v10))) h).bind fun u1 => if v8 < ((10 : Int32)) then
    s_Mod_lost_328 v2 v3 v4 v5 v7 v8 v10 ((51 : Int32)) u1
  else
    s_Mod_lost_328 v2 v3 v4 v5 v7 v8 v10 (v8 - ((10 : Int32))) u1
noncomputable def s_Mod_lost_253 (v2 : Int32) (v3 : Int32) (v4 : Int32) (v5 : Int64) (v7 : Int32) (v8 : Int32) (v10 : Int32) (s0 : Int32) (h : Hp) : Option ((Int32 × Int32 × Int32 × Int64 × Int32 × Int32 × Hp) ⊕ ((Int32 × Int32 × Int32 × Int64 × Int32 × Hp) ⊕ (Int32 × Hp))) :=
  ib v8 52 <| (s_Mod_goes s0 (((hL h 111 (ix v8)) * ((2 : Int64))) * (Int32.toInt64 v10)) h).bind fun u1 => if ((50 : Int32)) ≤ (v8 + ((10 : Int32))) then
    s_Mod_lost_292 v2 v3 v4 v5 v7 v8 v10 ((51 : Int32)) u1
  else
    s_Mod_lost_292 v2 v3 v4 v5 v7 v8 v10 (v8 + ((10 : Int32))) u1
noncomputable def s_Mod_lost_234 (v2 : Int32) (v3 : Int32) (v4 : Int32) (v5 : Int64) (v7 : Int32) (v8 : Int32) (v10 : Int32) (s0 : Int32) (s1 : Int32) (h : Hp) : Option ((Int32 × Int32 × Int32 × Int64 × Int32 × Int32 × Hp) ⊕ ((Int32 × Int32 × Int32 × Int64 × Int32 × Hp) ⊕ (Int32 × Hp))) :=
  (s_Mod_toOf s1 s0 h).bind fun u1 => if u1 = ((-1 : Int32)) then
    s_Mod_lost_253 v2 v3 v4 v5 v7 v8 v10 ((50 : Int32)) h
  else
    s_Mod_lost_253 v2 v3 v4 v5 v7 v8 v10 u1 h
noncomputable def s_Mod_lost_220 (v2 : Int32) (v3 : Int32) (v4 : Int32) (v5 : Int64) (v7 : Int32) (v8 : Int32) (v9 : Int32) (s0 : Int32) (h : Hp) : Option ((Int32 × Int32 × Int32 × Int64 × Int32 × Int32 × Hp) ⊕ ((Int32 × Int32 × Int32 × Int64 × Int32 × Hp) ⊕ (Int32 × Hp))) :=
  if v9 ≤ 0 then
    s_Mod_lost_234 v2 v3 v4 v5 v7 v8 s0 ((2 : Int32)) v8 h
  else
    s_Mod_lost_234 v2 v3 v4 v5 v7 v8 s0 ((1 : Int32)) v8 h
noncomputable def s_Mod_lost_355 (v2 : Int32) (v3 : Int32) (v4 : Int32) (v5 : Int64) (v7 : Int32) (v8 : Int32) (h : Hp) : Option ((Int32 × Int32 × Int32 × Int64 × Int32 × Int32 × Hp) ⊕ ((Int32 × Int32 × Int32 × Int64 × Int32 × Hp) ⊕ (Int32 × Hp))) :=
  if ((52 : Int32)) ≤ v8 then
    some (.inr (.inl (v2, v3, v4, (v5 * ((200 : Int64))), (v7 + (1 : Int32)), h)))
  else
    ib v8 52 <| ib v8 52 <| some (.inl (v2, v3, v4, v5, v7, (v8 + (1 : Int32)), (sL h 111 (ix v8) (hL h 112 (ix v8)))))
noncomputable def s_Mod_lost_152 (v2 : Int32) (v3 : Int32) (v4 : Int32) (v5 : Int64) (v7 : Int32) (v8 : Int32) (h : Hp) : Option ((Int32 × Int32 × Int32 × Int64 × Int32 × Int32 × Hp) ⊕ ((Int32 × Int32 × Int32 × Int64 × Int32 × Hp) ⊕ (Int32 × Hp))) :=
  if ((50 : Int32)) ≤ v8 then
    inr (lp (fun q => s_Mod_lost_355 q.1 q.2.1 q.2.2.1 q.2.2.2.1 q.2.2.2.2.1 q.2.2.2.2.2.1 q.2.2.2.2.2.2) (v2, v3, v4, v5, v7, ((0 : Int32)), h))
  else
    ib v8 52 <| if (lg_cmp (hL h 111 (ix v8)) ((0 : Int64))) = 0 then
      s_Mod_lost_346 v2 v3 v4 v5 v7 v8 h
    else
      (s_Mod_kindOf v8 h).bind fun u1 => (s_Mod_minuteOf (v2 + v7) ((0 : Int32)) h).bind fun u2 => (s_Mod_flowAt u1 u2 h).bind fun u3 => (s_Mod_size u3 h).bind fun u4 => if (u4 / ((10 : Int32))) ≤ ((100 : Int32)) then
        (s_Mod_size u3 h).bind fun u5 => s_Mod_lost_220 v2 v3 v4 v5 v7 v8 u3 (u5 / ((10 : Int32))) h
      else
        s_Mod_lost_220 v2 v3 v4 v5 v7 v8 u3 ((100 : Int32)) h
noncomputable def s_Mod_lost_107 (v2 : Int32) (v3 : Int32) (v4 : Int32) (v5 : Int64) (v7 : Int32) (v8 : Int32) (h : Hp) : Option ((Int32 × Int32 × Int32 × Int64 × Int32 × Int32 × Hp) ⊕ ((Int32 × Int32 × Int32 × Int64 × Int32 × Hp) ⊕ (Int32 × Hp))) :=
  if ((52 : Int32)) ≤ v8 then
    inr (lp (fun q => s_Mod_lost_152 q.1 q.2.1 q.2.2.1 q.2.2.2.1 q.2.2.2.2.1 q.2.2.2.2.2.1 q.2.2.2.2.2.2) (v2, v3, v4, v5, v7, ((0 : Int32)), h))
  else
    if ((50 : Int32)) ≤ v8 then
      ib v8 52 <| s_Mod_lost_142 v2 v3 v4 v5 v7 v8 ((hL h 111 (ix v8)) * ((200 : Int64))) v8 h
    else
      s_Mod_lost_142 v2 v3 v4 v5 v7 v8 ((0 : Int64)) v8 h
noncomputable def s_Mod_lost_423 (v5 : Int64) (v7 : Int64) (v9 : Int64) (v11 : Int32) (h : Hp) : Option ((Int64 × Int64 × Int64 × Int32 × Hp) ⊕ (Int32 × Hp)) :=
  if ((6 : Int32)) ≤ v11 then
    some (.inr (Int64.toInt32 v7, h))
  else
    cnL v5 <| lt ((v7 * ((10 : Int64))) + ((v9 * ((10 : Int64))) / v5)) fun x2 => cnL v5 <| some (.inl (v5, x2, (z_lrem (v9 * ((10 : Int64))) v5), (v11 + (1 : Int32)), h))
noncomputable def s_Mod_lost_98 (v2 : Int32) (v3 : Int32) (v4 : Int32) (v5 : Int64) (v7 : Int32) (h : Hp) : Option ((Int32 × Int32 × Int32 × Int64 × Int32 × Hp) ⊕ (Int32 × Hp)) :=
  if v3 ≤ v7 then
    ib v4 52 <| cnL v5 <| ib v4 52 <| cnL v5 <| inr (lp (fun q => s_Mod_lost_423 q.1 q.2.1 q.2.2.1 q.2.2.2.1 q.2.2.2.2) (v5, ((hL h 111 (ix v4)) / v5), (z_lrem (hL h 111 (ix v4)) v5), ((0 : Int32)), h))
  else
    lp (fun q => s_Mod_lost_107 q.1 q.2.1 q.2.2.1 q.2.2.2.1 q.2.2.2.2.1 q.2.2.2.2.2.1 q.2.2.2.2.2.2) (v2, v3, v4, v5, v7, ((0 : Int32)), h)
noncomputable def s_Mod_lost_61 (v1 : Int32) (v2 : Int32) (v3 : Int32) (v4 : Int32) (v5 : Int32) (h : Hp) : Option ((Int32 × Int32 × Int32 × Int32 × Int32 × Hp) ⊕ (Int32 × Hp)) :=
  if ((52 : Int32)) ≤ v5 then
    inr (lp (fun q => s_Mod_lost_98 q.1 q.2.1 q.2.2.1 q.2.2.2.1 q.2.2.2.2.1 q.2.2.2.2.2) (v2, v3, v4, ((1 : Int64)), ((0 : Int32)), h))
  else
    if v5 = v1 then
      s_Mod_lost_85 v1 v2 v3 v4 v5 ((1 : Int64)) v5 h
    else
      s_Mod_lost_85 v1 v2 v3 v4 v5 ((0 : Int64)) v5 h
noncomputable def s_Mod_lost (v1 : Int32) (v2 : Int32) (v3 : Int32) (v4 : Int32) (h : Hp) : Option (Int32 × Hp) :=
  (s_Mod_isCell v1 h).bind fun u1 => if u1 = 0 then
    s_Mod_lost_52 h
  else
    (s_Mod_isStep v2 h).bind fun u2 => if u2 = 0 then
      s_Mod_lost_52 h
    else
      (s_Mod_lies v3 ((0 : Int32)) ((6 : Int32)) h).bind fun u3 => if u3 = 0 then
        s_Mod_lost_52 h
      else
        (s_Mod_lies v4 ((0 : Int32)) ((51 : Int32)) h).bind fun u4 => if u4 = 0 then
          s_Mod_lost_52 h
        else
          if ((144 : Int32)) ≤ (v2 + v3) then
            s_Mod_lost_52 h
          else
            (s_Mod_kindOf v1 h).bind fun u5 => if u5 = 0 then
              s_Mod_lost_52 h
            else
              (s_Mod_looks h).bind fun u6 => lp (fun q => s_Mod_lost_61 q.1 q.2.1 q.2.2.1 q.2.2.2.1 q.2.2.2.2.1 q.2.2.2.2.2) (v1, v2, v3, v4, ((0 : Int32)), u6)
def O_Mod_lost (G : jG) (X : jX) (out : (Int32 × Hp)) : Prop := jO G X (some .int) (some (.int out.1)) out.2
def P_Mod_lost_61 (G : jG) (X : jX) (q : Int32 × Int32 × Int32 × Int32 × Int32 × Hp) : Prop := J G X 61 [(0, .ref (G.1 + 84)), (1, .int q.1), (2, .int q.2.1), (3, .int q.2.2.1), (4, .int q.2.2.2.1), (5, .int q.2.2.2.2.1)] [] q.2.2.2.2.2
def O_Mod_lost_61 (G : jG) (X : jX) (t : ((Int32 × Int32 × Int32 × Int32 × Int32 × Hp) ⊕ (Int32 × Hp))) : Prop := Sum.elim (P_Mod_lost_61 G X) (O_Mod_lost G X) t
def P_Mod_lost_98 (G : jG) (X : jX) (q : Int32 × Int32 × Int32 × Int64 × Int32 × Hp) : Prop := J G X 98 [(0, .ref (G.1 + 84)), (2, .int q.1), (3, .int q.2.1), (4, .int q.2.2.1), (5, .long q.2.2.2.1), (7, .int q.2.2.2.2.1)] [] q.2.2.2.2.2
def O_Mod_lost_98 (G : jG) (X : jX) (t : ((Int32 × Int32 × Int32 × Int64 × Int32 × Hp) ⊕ (Int32 × Hp))) : Prop := Sum.elim (P_Mod_lost_98 G X) (O_Mod_lost G X) t
def P_Mod_lost_107 (G : jG) (X : jX) (q : Int32 × Int32 × Int32 × Int64 × Int32 × Int32 × Hp) : Prop := J G X 107 [(0, .ref (G.1 + 84)), (2, .int q.1), (3, .int q.2.1), (4, .int q.2.2.1), (5, .long q.2.2.2.1), (7, .int q.2.2.2.2.1), (8, .int q.2.2.2.2.2.1)] [] q.2.2.2.2.2.2
def O_Mod_lost_107 (G : jG) (X : jX) (t : ((Int32 × Int32 × Int32 × Int64 × Int32 × Int32 × Hp) ⊕ ((Int32 × Int32 × Int32 × Int64 × Int32 × Hp) ⊕ (Int32 × Hp)))) : Prop := Sum.elim (P_Mod_lost_107 G X) (O_Mod_lost_98 G X) t
def P_Mod_lost_152 (G : jG) (X : jX) (q : Int32 × Int32 × Int32 × Int64 × Int32 × Int32 × Hp) : Prop := J G X 152 [(0, .ref (G.1 + 84)), (2, .int q.1), (3, .int q.2.1), (4, .int q.2.2.1), (5, .long q.2.2.2.1), (7, .int q.2.2.2.2.1), (8, .int q.2.2.2.2.2.1)] [] q.2.2.2.2.2.2
def O_Mod_lost_152 (G : jG) (X : jX) (t : ((Int32 × Int32 × Int32 × Int64 × Int32 × Int32 × Hp) ⊕ ((Int32 × Int32 × Int32 × Int64 × Int32 × Hp) ⊕ (Int32 × Hp)))) : Prop := Sum.elim (P_Mod_lost_152 G X) (O_Mod_lost_98 G X) t
def P_Mod_lost_355 (G : jG) (X : jX) (q : Int32 × Int32 × Int32 × Int64 × Int32 × Int32 × Hp) : Prop := J G X 355 [(0, .ref (G.1 + 84)), (2, .int q.1), (3, .int q.2.1), (4, .int q.2.2.1), (5, .long q.2.2.2.1), (7, .int q.2.2.2.2.1), (8, .int q.2.2.2.2.2.1)] [] q.2.2.2.2.2.2
def O_Mod_lost_355 (G : jG) (X : jX) (t : ((Int32 × Int32 × Int32 × Int64 × Int32 × Int32 × Hp) ⊕ ((Int32 × Int32 × Int32 × Int64 × Int32 × Hp) ⊕ (Int32 × Hp)))) : Prop := Sum.elim (P_Mod_lost_355 G X) (O_Mod_lost_98 G X) t
def P_Mod_lost_423 (G : jG) (X : jX) (q : Int64 × Int64 × Int64 × Int32 × Hp) : Prop := J G X 423 [(5, .long q.1), (7, .long q.2.1), (9, .long q.2.2.1), (11, .int q.2.2.2.1)] [] q.2.2.2.2
def O_Mod_lost_423 (G : jG) (X : jX) (t : ((Int64 × Int64 × Int64 × Int32 × Hp) ⊕ (Int32 × Hp))) : Prop := Sum.elim (P_Mod_lost_423 G X) (O_Mod_lost G X) t
theorem w_Mod_lost_52 {G : jG} {X : jX} (C : jC G X cX12_lost 12 RX12 179 4679) {h : Hp} {out : (Int32 × Hp)} (O : (O_Mod_lost G X) out) (hm : s_Mod_lost_52 h = some out) : J G X 52 [] [] h := by
  unfold s_Mod_lost_52 at hm
  refine j_iconst C (-1 : Int32) dX12_lost_52 (by decide) ?_
  obtain rfl := Option.some.inj hm
  exact j_iret C O dX12_lost_53
theorem w_Mod_lost_85 {G : jG} {X : jX} (C : jC G X cX12_lost 12 RX12 179 4679) {v1 : Int32} {v2 : Int32} {v3 : Int32} {v4 : Int32} {v5 : Int32} {s0 : Int64} {s1 : Int32} {h : Hp} {out : ((Int32 × Int32 × Int32 × Int32 × Int32 × Hp) ⊕ (Int32 × Hp))} (O : (O_Mod_lost_61 G X) out) (hm : s_Mod_lost_85 v1 v2 v3 v4 v5 s0 s1 h = some out) : J G X 85 [(0, .ref (G.1 + 84)), (1, .int v1), (2, .int v2), (3, .int v3), (4, .int v4), (5, .int v5)] [.long s0, .int s1, .ref (G.1 + 111)] h := by
  unfold s_Mod_lost_85 at hm
  refine j_last C n_111 hm dX12_lost_85 (fun hm => ?_)
  refine j_iinc C 5 [(5, .int (v5 + (1 : Int32))), (0, .ref (G.1 + 84)), (1, .int v1), (2, .int v2), (3, .int v3), (4, .int v4)] dX12_lost_86 rfl (add_lit (by decide)) (by decide) rfl ?_
  refine j_goto C 61 dX12_lost_89 (by decide) ?_
  obtain rfl := Option.some.inj hm
  refine j_sub (L' := [(0, .ref (G.1 + 84)), (1, .int v1), (2, .int v2), (3, .int v3), (4, .int v4), (5, .int (v5 + (1 : Int32)))]) [1, 2, 3, 4, 5, 0] rfl ?_
  exact O
theorem w_Mod_lost_142 {G : jG} {X : jX} (C : jC G X cX12_lost 12 RX12 179 4679) {v2 : Int32} {v3 : Int32} {v4 : Int32} {v5 : Int64} {v7 : Int32} {v8 : Int32} {s0 : Int64} {s1 : Int32} {h : Hp} {out : ((Int32 × Int32 × Int32 × Int64 × Int32 × Int32 × Hp) ⊕ ((Int32 × Int32 × Int32 × Int64 × Int32 × Hp) ⊕ (Int32 × Hp)))} (O : (O_Mod_lost_107 G X) out) (hm : s_Mod_lost_142 v2 v3 v4 v5 v7 v8 s0 s1 h = some out) : J G X 142 [(0, .ref (G.1 + 84)), (2, .int v2), (3, .int v3), (4, .int v4), (5, .long v5), (7, .int v7), (8, .int v8)] [.long s0, .int s1, .ref (G.1 + 112)] h := by
  unfold s_Mod_lost_142 at hm
  refine j_last C n_112 hm dX12_lost_142 (fun hm => ?_)
  refine j_iinc C 6 [(8, .int (v8 + (1 : Int32))), (0, .ref (G.1 + 84)), (2, .int v2), (3, .int v3), (4, .int v4), (5, .long v5), (7, .int v7)] dX12_lost_143 rfl (add_lit (by decide)) (by decide) rfl ?_
  refine j_goto C 107 dX12_lost_146 (by decide) ?_
  obtain rfl := Option.some.inj hm
  refine j_sub (L' := [(0, .ref (G.1 + 84)), (2, .int v2), (3, .int v3), (4, .int v4), (5, .long v5), (7, .int v7), (8, .int (v8 + (1 : Int32)))]) [1, 2, 3, 4, 5, 6, 0] rfl ?_
  exact O
theorem w_Mod_lost_346 {G : jG} {X : jX} (C : jC G X cX12_lost 12 RX12 179 4679) {v2 : Int32} {v3 : Int32} {v4 : Int32} {v5 : Int64} {v7 : Int32} {v8 : Int32} {h : Hp} {out : ((Int32 × Int32 × Int32 × Int64 × Int32 × Int32 × Hp) ⊕ ((Int32 × Int32 × Int32 × Int64 × Int32 × Hp) ⊕ (Int32 × Hp)))} (O : (O_Mod_lost_152 G X) out) (hm : s_Mod_lost_346 v2 v3 v4 v5 v7 v8 h = some out) : J G X 346 [(0, .ref (G.1 + 84)), (2, .int v2), (3, .int v3), (4, .int v4), (5, .long v5), (7, .int v7), (8, .int v8)] [] h := by
  unfold s_Mod_lost_346 at hm
  refine j_iinc C 6 [(8, .int (v8 + (1 : Int32))), (0, .ref (G.1 + 84)), (2, .int v2), (3, .int v3), (4, .int v4), (5, .long v5), (7, .int v7)] dX12_lost_346 rfl (add_lit (by decide)) (by decide) rfl ?_
  refine j_goto C 152 dX12_lost_349 (by decide) ?_
  obtain rfl := Option.some.inj hm
  refine j_sub (L' := [(0, .ref (G.1 + 84)), (2, .int v2), (3, .int v3), (4, .int v4), (5, .long v5), (7, .int v7), (8, .int (v8 + (1 : Int32)))]) [1, 2, 3, 4, 5, 6, 0] rfl ?_
  exact O
theorem w_Mod_lost_328 {G : jG} {X : jX} (C : jC G X cX12_lost 12 RX12 179 4679) {v2 : Int32} {v3 : Int32} {v4 : Int32} {v5 : Int64} {v7 : Int32} {v8 : Int32} {v10 : Int32} {s0 : Int32} {h : Hp} {out : ((Int32 × Int32 × Int32 × Int64 × Int32 × Int32 × Hp) ⊕ ((Int32 × Int32 × Int32 × Int64 × Int32 × Hp) ⊕ (Int32 × Hp)))} (O : (O_Mod_lost_152 G X) out) (hm : s_Mod_lost_328 v2 v3 v4 v5 v7 v8 v10 s0 h = some out) : J G X 328 [(0, .ref (G.1 + 84)), (2, .int v2), (3, .int v3), (4, .int v4), (5, .long v5), (7, .int v7), (8, .int v8), (10, .int v10)] [.int s0, .ref (G.1 + 84)] h := by
  unfold s_Mod_lost_328 at hm
  refine j_aload_n C 0 dX12_lost_328 rfl rfl ?_
  refine j_gS C f_X12_103 n_84 q_84_48 dX12_lost_329 ?_
  refine j_iload C 6 dX12_lost_332 rfl ?_
  refine j_lald C n_111 hm dX12_lost_334 (fun hm => ?_)
  refine j_ldc2 C wd_1929 dX12_lost_335 ?_
  refine j_iload C 7 dX12_lost_338 rfl ?_
  refine j_i2l C dX12_lost_340 ?_
  refine j_lsub C dX12_lost_341 ?_
  refine j_lmul C dX12_lost_342 ?_
  refine j_cV C l_X12_434 [.int s0, .long ((hL h 111 (ix v8)) * (((100 : Int64)) - (Int32.toInt64 v10)))] [] (fun _ => none) (fun u1 => u1) (fun u1 => []) n_84 hm (fun l u hu => c_Mod_goes hu) rfl (Nat.le_of_ble_eq_true rfl) rfl (Nat.le_of_ble_eq_true rfl) (Nat.le_of_ble_eq_true rfl) (fun _ => rfl) dX12_lost_343 (fun u1 hm => ?_)
  refine j_sub (L' := [(0, .ref (G.1 + 84)), (2, .int v2), (3, .int v3), (4, .int v4), (5, .long v5), (7, .int v7), (8, .int v8)]) [0, 1, 2, 3, 4, 5, 6] rfl ?_
  exact w_Mod_lost_346 C O hm
theorem w_Mod_lost_292 {G : jG} {X : jX} (C : jC G X cX12_lost 12 RX12 179 4679) {v2 : Int32} {v3 : Int32} {v4 : Int32} {v5 : Int64} {v7 : Int32} {v8 : Int32} {v10 : Int32} {s0 : Int32} {h : Hp} {out : ((Int32 × Int32 × Int32 × Int64 × Int32 × Int32 × Hp) ⊕ ((Int32 × Int32 × Int32 × Int64 × Int32 × Hp) ⊕ (Int32 × Hp)))} (O : (O_Mod_lost_152 G X) out) (hm : s_Mod_lost_292 v2 v3 v4 v5 v7 v8 v10 s0 h = some out) : J G X 292 [(0, .ref (G.1 + 84)), (2, .int v2), (3, .int v3), (4, .int v4), (5, .long v5), (7, .int v7), (8, .int v8), (10, .int v10)] [.int s0, .ref (G.1 + 84)] h := by
  unfold s_Mod_lost_292 at hm
  refine j_aload_n C 0 dX12_lost_292 rfl rfl ?_
  refine j_gS C f_X12_103 n_84 q_84_48 dX12_lost_293 ?_
  refine j_iload C 6 dX12_lost_296 rfl ?_
  refine j_lald C n_111 hm dX12_lost_298 (fun hm => ?_)
  refine j_ldc2 C wd_1929 dX12_lost_299 ?_
  refine j_iload C 7 dX12_lost_302 rfl ?_
  refine j_i2l C dX12_lost_304 ?_
  refine j_lsub C dX12_lost_305 ?_
  refine j_lmul C dX12_lost_306 ?_
  refine j_cV C l_X12_434 [.int s0, .long ((hL h 111 (ix v8)) * (((100 : Int64)) - (Int32.toInt64 v10)))] [] (fun _ => none) (fun u1 => u1) (fun u1 => []) n_84 hm (fun l u hu => c_Mod_goes hu) rfl (Nat.le_of_ble_eq_true rfl) rfl (Nat.le_of_ble_eq_true rfl) (Nat.le_of_ble_eq_true rfl) (fun _ => rfl) dX12_lost_307 (fun u1 hm => ?_)
  refine j_aload_n C 0 dX12_lost_310 rfl rfl ?_
  refine j_iload C 6 dX12_lost_311 rfl ?_
  refine j_bipush C 10 dX12_lost_313 (by decide) ?_
  refine j_if_icmplt C 326 dX12_lost_315 (by decide) hm (fun hm => ?_) (fun hm => ?_)
  · refine j_bipush C 51 dX12_lost_326 (by decide) ?_
    refine j_sub (L' := [(0, .ref (G.1 + 84)), (2, .int v2), (3, .int v3), (4, .int v4), (5, .long v5), (7, .int v7), (8, .int v8), (10, .int v10)]) [0, 1, 2, 3, 4, 5, 6, 7] rfl ?_
    exact w_Mod_lost_328 C O hm
  · refine j_iload C 6 dX12_lost_318 rfl ?_
    refine j_bipush C 10 dX12_lost_320 (by decide) ?_
    refine j_isub C dX12_lost_322 ?_
    refine j_goto C 328 dX12_lost_323 (by decide) ?_
    refine j_sub (L' := [(0, .ref (G.1 + 84)), (2, .int v2), (3, .int v3), (4, .int v4), (5, .long v5), (7, .int v7), (8, .int v8), (10, .int v10)]) [0, 1, 2, 3, 4, 5, 6, 7] rfl ?_
    exact w_Mod_lost_328 C O hm
theorem w_Mod_lost_253 {G : jG} {X : jX} (C : jC G X cX12_lost 12 RX12 179 4679) {v2 : Int32} {v3 : Int32} {v4 : Int32} {v5 : Int64} {v7 : Int32} {v8 : Int32} {v10 : Int32} {s0 : Int32} {h : Hp} {out : ((Int32 × Int32 × Int32 × Int64 × Int32 × Int32 × Hp) ⊕ ((Int32 × Int32 × Int32 × Int64 × Int32 × Hp) ⊕ (Int32 × Hp)))} (O : (O_Mod_lost_152 G X) out) (hm : s_Mod_lost_253 v2 v3 v4 v5 v7 v8 v10 s0 h = some out) : J G X 253 [(0, .ref (G.1 + 84)), (2, .int v2), (3, .int v3), (4, .int v4), (5, .long v5), (7, .int v7), (8, .int v8), (10, .int v10)] [.int s0, .ref (G.1 + 84)] h := by
  unfold s_Mod_lost_253 at hm
  refine j_aload_n C 0 dX12_lost_253 rfl rfl ?_
  refine j_gS C f_X12_103 n_84 q_84_48 dX12_lost_254 ?_
  refine j_iload C 6 dX12_lost_257 rfl ?_
  refine j_lald C n_111 hm dX12_lost_259 (fun hm => ?_)
  refine j_ldc2 C wd_1924 dX12_lost_260 ?_
  refine j_lmul C dX12_lost_263 ?_
  refine j_iload C 7 dX12_lost_264 rfl ?_
  refine j_i2l C dX12_lost_266 ?_
  refine j_lmul C dX12_lost_267 ?_
  refine j_cV C l_X12_434 [.int s0, .long (((hL h 111 (ix v8)) * ((2 : Int64))) * (Int32.toInt64 v10))] [] (fun _ => none) (fun u1 => u1) (fun u1 => []) n_84 hm (fun l u hu => c_Mod_goes hu) rfl (Nat.le_of_ble_eq_true rfl) rfl (Nat.le_of_ble_eq_true rfl) (Nat.le_of_ble_eq_true rfl) (fun _ => rfl) dX12_lost_268 (fun u1 hm => ?_)
  refine j_aload_n C 0 dX12_lost_271 rfl rfl ?_
  refine j_iload C 6 dX12_lost_272 rfl ?_
  refine j_bipush C 10 dX12_lost_274 (by decide) ?_
  refine j_iadd C dX12_lost_276 ?_
  refine j_bipush C 50 dX12_lost_277 (by decide) ?_
  refine j_if_icmpge C 290 dX12_lost_279 (by decide) hm (fun hm => ?_) (fun hm => ?_)
  · refine j_bipush C 51 dX12_lost_290 (by decide) ?_
    refine j_sub (L' := [(0, .ref (G.1 + 84)), (2, .int v2), (3, .int v3), (4, .int v4), (5, .long v5), (7, .int v7), (8, .int v8), (10, .int v10)]) [0, 1, 2, 3, 4, 5, 6, 7] rfl ?_
    exact w_Mod_lost_292 C O hm
  · refine j_iload C 6 dX12_lost_282 rfl ?_
    refine j_bipush C 10 dX12_lost_284 (by decide) ?_
    refine j_iadd C dX12_lost_286 ?_
    refine j_goto C 292 dX12_lost_287 (by decide) ?_
    refine j_sub (L' := [(0, .ref (G.1 + 84)), (2, .int v2), (3, .int v3), (4, .int v4), (5, .long v5), (7, .int v7), (8, .int v8), (10, .int v10)]) [0, 1, 2, 3, 4, 5, 6, 7] rfl ?_
    exact w_Mod_lost_292 C O hm
theorem w_Mod_lost_234 {G : jG} {X : jX} (C : jC G X cX12_lost 12 RX12 179 4679) {v2 : Int32} {v3 : Int32} {v4 : Int32} {v5 : Int64} {v7 : Int32} {v8 : Int32} {v10 : Int32} {s0 : Int32} {s1 : Int32} {h : Hp} {out : ((Int32 × Int32 × Int32 × Int64 × Int32 × Int32 × Hp) ⊕ ((Int32 × Int32 × Int32 × Int64 × Int32 × Hp) ⊕ (Int32 × Hp)))} (O : (O_Mod_lost_152 G X) out) (hm : s_Mod_lost_234 v2 v3 v4 v5 v7 v8 v10 s0 s1 h = some out) : J G X 234 [(0, .ref (G.1 + 84)), (2, .int v2), (3, .int v3), (4, .int v4), (5, .long v5), (7, .int v7), (8, .int v8), (10, .int v10)] [.int s0, .int s1] h := by
  unfold s_Mod_lost_234 at hm
  refine j_cS C l_X12_348 [.int s1, .int s0] [] (fun u1 => some (.int u1)) (fun _ => h) (fun u1 => [.int u1]) hm (fun l u hu => c_Mod_toOf hu) rfl (Nat.le_of_ble_eq_true rfl) rfl (Nat.le_of_ble_eq_true rfl) (Nat.le_of_ble_eq_true rfl) (fun _ => rfl) dX12_lost_234 (fun u1 hm => ?_)
  refine j_istore C [(11, .int u1), (0, .ref (G.1 + 84)), (2, .int v2), (3, .int v3), (4, .int v4), (5, .long v5), (7, .int v7), (8, .int v8), (10, .int v10)] dX12_lost_237 (by decide) rfl ?_
  refine j_aload_n C 1 dX12_lost_239 rfl rfl ?_
  refine j_iload C 0 dX12_lost_240 rfl ?_
  refine j_iconst C (-1 : Int32) dX12_lost_242 (by decide) ?_
  refine j_if_icmpne C 251 dX12_lost_243 (by decide) hm (fun hm => ?_) (fun hm => ?_)
  · refine j_bipush C 50 dX12_lost_246 (by decide) ?_
    refine j_goto C 253 dX12_lost_248 (by decide) ?_
    refine j_sub (L' := [(0, .ref (G.1 + 84)), (2, .int v2), (3, .int v3), (4, .int v4), (5, .long v5), (7, .int v7), (8, .int v8), (10, .int v10)]) [1, 2, 3, 4, 5, 6, 7, 8] rfl ?_
    exact w_Mod_lost_253 C O hm
  · refine j_iload C 0 dX12_lost_251 rfl ?_
    refine j_sub (L' := [(0, .ref (G.1 + 84)), (2, .int v2), (3, .int v3), (4, .int v4), (5, .long v5), (7, .int v7), (8, .int v8), (10, .int v10)]) [1, 2, 3, 4, 5, 6, 7, 8] rfl ?_
    exact w_Mod_lost_253 C O hm
theorem w_Mod_lost_220 {G : jG} {X : jX} (C : jC G X cX12_lost 12 RX12 179 4679) {v2 : Int32} {v3 : Int32} {v4 : Int32} {v5 : Int64} {v7 : Int32} {v8 : Int32} {v9 : Int32} {s0 : Int32} {h : Hp} {out : ((Int32 × Int32 × Int32 × Int64 × Int32 × Int32 × Hp) ⊕ ((Int32 × Int32 × Int32 × Int64 × Int32 × Hp) ⊕ (Int32 × Hp)))} (O : (O_Mod_lost_152 G X) out) (hm : s_Mod_lost_220 v2 v3 v4 v5 v7 v8 v9 s0 h = some out) : J G X 220 [(0, .ref (G.1 + 84)), (2, .int v2), (3, .int v3), (4, .int v4), (5, .long v5), (7, .int v7), (8, .int v8), (9, .int v9)] [.int s0] h := by
  unfold s_Mod_lost_220 at hm
  refine j_istore C [(10, .int s0), (0, .ref (G.1 + 84)), (2, .int v2), (3, .int v3), (4, .int v4), (5, .long v5), (7, .int v7), (8, .int v8), (9, .int v9)] dX12_lost_220 (by decide) rfl ?_
  refine j_iload C 7 dX12_lost_222 rfl ?_
  refine j_iload C 8 dX12_lost_224 rfl ?_
  refine j_ifle C 233 dX12_lost_226 (by decide) hm (fun hm => ?_) (fun hm => ?_)
  · refine j_iconst C 2 dX12_lost_233 (by decide) ?_
    refine j_sub (L' := [(0, .ref (G.1 + 84)), (2, .int v2), (3, .int v3), (4, .int v4), (5, .long v5), (7, .int v7), (8, .int v8), (10, .int s0)]) [1, 2, 3, 4, 5, 6, 7, 0] rfl ?_
    exact w_Mod_lost_234 C O hm
  · refine j_iconst C 1 dX12_lost_229 (by decide) ?_
    refine j_goto C 234 dX12_lost_230 (by decide) ?_
    refine j_sub (L' := [(0, .ref (G.1 + 84)), (2, .int v2), (3, .int v3), (4, .int v4), (5, .long v5), (7, .int v7), (8, .int v8), (10, .int s0)]) [1, 2, 3, 4, 5, 6, 7, 0] rfl ?_
    exact w_Mod_lost_234 C O hm
theorem w_Mod_lost_355 {G : jG} {X : jX} (C : jC G X cX12_lost 12 RX12 179 4679) {v2 : Int32} {v3 : Int32} {v4 : Int32} {v5 : Int64} {v7 : Int32} {v8 : Int32} {h : Hp} {out : ((Int32 × Int32 × Int32 × Int64 × Int32 × Int32 × Hp) ⊕ ((Int32 × Int32 × Int32 × Int64 × Int32 × Hp) ⊕ (Int32 × Hp)))} (O : (O_Mod_lost_355 G X) out) (hm : s_Mod_lost_355 v2 v3 v4 v5 v7 v8 h = some out) : J G X 355 [(0, .ref (G.1 + 84)), (2, .int v2), (3, .int v3), (4, .int v4), (5, .long v5), (7, .int v7), (8, .int v8)] [] h := by
  unfold s_Mod_lost_355 at hm
  refine j_iload C 6 dX12_lost_355 rfl ?_
  refine j_bipush C 52 dX12_lost_357 (by decide) ?_
  refine j_if_icmpge C 382 dX12_lost_359 (by decide) hm (fun hm => ?_) (fun hm => ?_)
  · refine j_lload C 4 dX12_lost_382 rfl ?_
    refine j_ldc2 C wd_1923 dX12_lost_384 ?_
    refine j_lmul C dX12_lost_387 ?_
    refine j_lstore C [(5, .long (v5 * ((200 : Int64)))), (0, .ref (G.1 + 84)), (2, .int v2), (3, .int v3), (4, .int v4), (7, .int v7), (8, .int v8)] dX12_lost_388 (by decide) rfl ?_
    refine j_iinc C 5 [(7, .int (v7 + (1 : Int32))), (5, .long (v5 * ((200 : Int64)))), (0, .ref (G.1 + 84)), (2, .int v2), (3, .int v3), (4, .int v4), (8, .int v8)] dX12_lost_390 rfl (add_lit (by decide)) (by decide) rfl ?_
    refine j_goto C 98 dX12_lost_393 (by decide) ?_
    obtain rfl := Option.some.inj hm
    refine j_sub (L' := [(0, .ref (G.1 + 84)), (2, .int v2), (3, .int v3), (4, .int v4), (5, .long (v5 * ((200 : Int64)))), (7, .int (v7 + (1 : Int32)))]) [2, 3, 4, 5, 1, 0] rfl ?_
    exact O
  · refine j_aload_n C 0 dX12_lost_362 rfl rfl ?_
    refine j_gS C f_X12_103 n_84 q_84_48 dX12_lost_363 ?_
    refine j_iload C 6 dX12_lost_366 rfl ?_
    refine j_aload_n C 0 dX12_lost_368 rfl rfl ?_
    refine j_gS C f_X12_107 n_84 q_84_49 dX12_lost_369 ?_
    refine j_iload C 6 dX12_lost_372 rfl ?_
    refine j_lald C n_112 hm dX12_lost_374 (fun hm => ?_)
    refine j_last C n_111 hm dX12_lost_375 (fun hm => ?_)
    refine j_iinc C 6 [(8, .int (v8 + (1 : Int32))), (0, .ref (G.1 + 84)), (2, .int v2), (3, .int v3), (4, .int v4), (5, .long v5), (7, .int v7)] dX12_lost_376 rfl (add_lit (by decide)) (by decide) rfl ?_
    refine j_goto C 355 dX12_lost_379 (by decide) ?_
    obtain rfl := Option.some.inj hm
    refine j_sub (L' := [(0, .ref (G.1 + 84)), (2, .int v2), (3, .int v3), (4, .int v4), (5, .long v5), (7, .int v7), (8, .int (v8 + (1 : Int32)))]) [1, 2, 3, 4, 5, 6, 0] rfl ?_
    exact O
theorem k_Mod_lost_355 {G : jG} {X : jX} (C : jC G X cX12_lost 12 RX12 179 4679) {v2 : Int32} {v3 : Int32} {v4 : Int32} {v5 : Int64} {v7 : Int32} {v8 : Int32} {h : Hp} {out : ((Int32 × Int32 × Int32 × Int64 × Int32 × Hp) ⊕ (Int32 × Hp))} (O : (O_Mod_lost_98 G X) out) (hm : lp (fun q => s_Mod_lost_355 q.1 q.2.1 q.2.2.1 q.2.2.2.1 q.2.2.2.2.1 q.2.2.2.2.2.1 q.2.2.2.2.2.2) (v2, v3, v4, v5, v7, v8, h) = some out) : J G X 355 [(0, .ref (G.1 + 84)), (2, .int v2), (3, .int v3), (4, .int v4), (5, .long v5), (7, .int v7), (8, .int v8)] [] h :=
  lp_ok (P := P_Mod_lost_355 G X) (O := (O_Mod_lost_98 G X)) (fun q r hm O => w_Mod_lost_355 C O hm) hm O
theorem w_Mod_lost_152 {G : jG} {X : jX} (C : jC G X cX12_lost 12 RX12 179 4679) {v2 : Int32} {v3 : Int32} {v4 : Int32} {v5 : Int64} {v7 : Int32} {v8 : Int32} {h : Hp} {out : ((Int32 × Int32 × Int32 × Int64 × Int32 × Int32 × Hp) ⊕ ((Int32 × Int32 × Int32 × Int64 × Int32 × Hp) ⊕ (Int32 × Hp)))} (O : (O_Mod_lost_152 G X) out) (hm : s_Mod_lost_152 v2 v3 v4 v5 v7 v8 h = some out) : J G X 152 [(0, .ref (G.1 + 84)), (2, .int v2), (3, .int v3), (4, .int v4), (5, .long v5), (7, .int v7), (8, .int v8)] [] h := by
  unfold s_Mod_lost_152 at hm
  refine j_iload C 6 dX12_lost_152 rfl ?_
  refine j_bipush C 50 dX12_lost_154 (by decide) ?_
  refine j_if_icmpge C 352 dX12_lost_156 (by decide) hm (fun hm => ?_) (fun hm => ?_)
  · refine j_iconst C 0 dX12_lost_352 (by decide) ?_
    refine j_istore C [(8, .int ((0 : Int32))), (0, .ref (G.1 + 84)), (2, .int v2), (3, .int v3), (4, .int v4), (5, .long v5), (7, .int v7)] dX12_lost_353 (by decide) rfl ?_
    obtain ⟨o_0, hm_0, rfl⟩ := inr_inv hm
    refine j_sub (L' := [(0, .ref (G.1 + 84)), (2, .int v2), (3, .int v3), (4, .int v4), (5, .long v5), (7, .int v7), (8, .int ((0 : Int32)))]) [1, 2, 3, 4, 5, 6, 0] rfl ?_
    exact k_Mod_lost_355 C O hm_0
  · refine j_aload_n C 0 dX12_lost_159 rfl rfl ?_
    refine j_gS C f_X12_103 n_84 q_84_48 dX12_lost_160 ?_
    refine j_iload C 6 dX12_lost_163 rfl ?_
    refine j_lald C n_111 hm dX12_lost_165 (fun hm => ?_)
    refine j_lconst C 0 dX12_lost_166 (by decide) ?_
    refine j_lcmp C dX12_lost_167 ?_
    refine j_ifne C 174 dX12_lost_168 (by decide) hm (fun hm => ?_) (fun hm => ?_)
    · refine j_goto C 346 dX12_lost_171 (by decide) ?_
      refine j_sub (L' := [(0, .ref (G.1 + 84)), (2, .int v2), (3, .int v3), (4, .int v4), (5, .long v5), (7, .int v7), (8, .int v8)]) [0, 1, 2, 3, 4, 5, 6] rfl ?_
      exact w_Mod_lost_346 C O hm
    · refine j_aload_n C 0 dX12_lost_174 rfl rfl ?_
      refine j_aload_n C 0 dX12_lost_175 rfl rfl ?_
      refine j_iload C 6 dX12_lost_176 rfl ?_
      refine j_cV C l_X12_343 [.int v8] [.ref (G.1 + 84)] (fun u1 => some (.int u1)) (fun _ => h) (fun u1 => [.int u1, .ref (G.1 + 84)]) n_84 hm (fun l u hu => c_Mod_kindOf hu) rfl (Nat.le_of_ble_eq_true rfl) rfl (Nat.le_of_ble_eq_true rfl) (Nat.le_of_ble_eq_true rfl) (fun _ => rfl) dX12_lost_178 (fun u1 hm => ?_)
      refine j_iload_n C 1 dX12_lost_181 rfl rfl ?_
      refine j_iload C 5 dX12_lost_182 rfl ?_
      refine j_iadd C dX12_lost_184 ?_
      refine j_iconst C 0 dX12_lost_185 (by decide) ?_
      refine j_cS C l_X12_351 [.int (v2 + v7), .int ((0 : Int32))] [.int u1, .ref (G.1 + 84)] (fun u2 => some (.int u2)) (fun _ => h) (fun u2 => [.int u2, .int u1, .ref (G.1 + 84)]) hm (fun l u hu => c_Mod_minuteOf hu) rfl (Nat.le_of_ble_eq_true rfl) rfl (Nat.le_of_ble_eq_true rfl) (Nat.le_of_ble_eq_true rfl) (fun _ => rfl) dX12_lost_186 (fun u2 hm => ?_)
      refine j_cV C l_X12_340 [.int u1, .int u2] [] (fun u3 => some (.int u3)) (fun _ => h) (fun u3 => [.int u3]) n_84 hm (fun l u hu => c_Mod_flowAt hu) rfl (Nat.le_of_ble_eq_true rfl) rfl (Nat.le_of_ble_eq_true rfl) (Nat.le_of_ble_eq_true rfl) (fun _ => rfl) dX12_lost_189 (fun u3 hm => ?_)
      refine j_istore C [(9, .int u3), (0, .ref (G.1 + 84)), (2, .int v2), (3, .int v3), (4, .int v4), (5, .long v5), (7, .int v7), (8, .int v8)] dX12_lost_192 (by decide) rfl ?_
      refine j_iload C 0 dX12_lost_194 rfl ?_
      refine j_cS C l_X12_304 [.int u3] [] (fun u4 => some (.int u4)) (fun _ => h) (fun u4 => [.int u4]) hm (fun l u hu => c_Mod_size hu) rfl (Nat.le_of_ble_eq_true rfl) rfl (Nat.le_of_ble_eq_true rfl) (Nat.le_of_ble_eq_true rfl) (fun _ => rfl) dX12_lost_196 (fun u4 hm => ?_)
      refine j_bipush C 10 dX12_lost_199 (by decide) ?_
      refine j_idiv C dX12_lost_201 (by decide) ?_
      refine j_bipush C 100 dX12_lost_202 (by decide) ?_
      refine j_if_icmple C 212 dX12_lost_204 (by decide) hm (fun hm => ?_) (fun hm => ?_)
      · refine j_iload C 0 dX12_lost_212 rfl ?_
        refine j_cS C l_X12_304 [.int u3] [] (fun u5 => some (.int u5)) (fun _ => h) (fun u5 => [.int u5]) hm (fun l u hu => c_Mod_size hu) rfl (Nat.le_of_ble_eq_true rfl) rfl (Nat.le_of_ble_eq_true rfl) (Nat.le_of_ble_eq_true rfl) (fun _ => rfl) dX12_lost_214 (fun u5 hm => ?_)
        refine j_bipush C 10 dX12_lost_217 (by decide) ?_
        refine j_idiv C dX12_lost_219 (by decide) ?_
        refine j_sub (L' := [(0, .ref (G.1 + 84)), (2, .int v2), (3, .int v3), (4, .int v4), (5, .long v5), (7, .int v7), (8, .int v8), (9, .int u3)]) [1, 2, 3, 4, 5, 6, 7, 0] rfl ?_
        exact w_Mod_lost_220 C O hm
      · refine j_bipush C 100 dX12_lost_207 (by decide) ?_
        refine j_goto C 220 dX12_lost_209 (by decide) ?_
        refine j_sub (L' := [(0, .ref (G.1 + 84)), (2, .int v2), (3, .int v3), (4, .int v4), (5, .long v5), (7, .int v7), (8, .int v8), (9, .int u3)]) [1, 2, 3, 4, 5, 6, 7, 0] rfl ?_
        exact w_Mod_lost_220 C O hm
theorem k_Mod_lost_152 {G : jG} {X : jX} (C : jC G X cX12_lost 12 RX12 179 4679) {v2 : Int32} {v3 : Int32} {v4 : Int32} {v5 : Int64} {v7 : Int32} {v8 : Int32} {h : Hp} {out : ((Int32 × Int32 × Int32 × Int64 × Int32 × Hp) ⊕ (Int32 × Hp))} (O : (O_Mod_lost_98 G X) out) (hm : lp (fun q => s_Mod_lost_152 q.1 q.2.1 q.2.2.1 q.2.2.2.1 q.2.2.2.2.1 q.2.2.2.2.2.1 q.2.2.2.2.2.2) (v2, v3, v4, v5, v7, v8, h) = some out) : J G X 152 [(0, .ref (G.1 + 84)), (2, .int v2), (3, .int v3), (4, .int v4), (5, .long v5), (7, .int v7), (8, .int v8)] [] h :=
  lp_ok (P := P_Mod_lost_152 G X) (O := (O_Mod_lost_98 G X)) (fun q r hm O => w_Mod_lost_152 C O hm) hm O
theorem w_Mod_lost_107 {G : jG} {X : jX} (C : jC G X cX12_lost 12 RX12 179 4679) {v2 : Int32} {v3 : Int32} {v4 : Int32} {v5 : Int64} {v7 : Int32} {v8 : Int32} {h : Hp} {out : ((Int32 × Int32 × Int32 × Int64 × Int32 × Int32 × Hp) ⊕ ((Int32 × Int32 × Int32 × Int64 × Int32 × Hp) ⊕ (Int32 × Hp)))} (O : (O_Mod_lost_107 G X) out) (hm : s_Mod_lost_107 v2 v3 v4 v5 v7 v8 h = some out) : J G X 107 [(0, .ref (G.1 + 84)), (2, .int v2), (3, .int v3), (4, .int v4), (5, .long v5), (7, .int v7), (8, .int v8)] [] h := by
  unfold s_Mod_lost_107 at hm
  refine j_iload C 6 dX12_lost_107 rfl ?_
  refine j_bipush C 52 dX12_lost_109 (by decide) ?_
  refine j_if_icmpge C 149 dX12_lost_111 (by decide) hm (fun hm => ?_) (fun hm => ?_)
  · refine j_iconst C 0 dX12_lost_149 (by decide) ?_
    refine j_istore C [(8, .int ((0 : Int32))), (0, .ref (G.1 + 84)), (2, .int v2), (3, .int v3), (4, .int v4), (5, .long v5), (7, .int v7)] dX12_lost_150 (by decide) rfl ?_
    obtain ⟨o_0, hm_0, rfl⟩ := inr_inv hm
    refine j_sub (L' := [(0, .ref (G.1 + 84)), (2, .int v2), (3, .int v3), (4, .int v4), (5, .long v5), (7, .int v7), (8, .int ((0 : Int32)))]) [1, 2, 3, 4, 5, 6, 0] rfl ?_
    exact k_Mod_lost_152 C O hm_0
  · refine j_aload_n C 0 dX12_lost_114 rfl rfl ?_
    refine j_gS C f_X12_107 n_84 q_84_49 dX12_lost_115 ?_
    refine j_iload C 6 dX12_lost_118 rfl ?_
    refine j_iload C 6 dX12_lost_120 rfl ?_
    refine j_bipush C 50 dX12_lost_122 (by decide) ?_
    refine j_if_icmpge C 131 dX12_lost_124 (by decide) hm (fun hm => ?_) (fun hm => ?_)
    · refine j_aload_n C 0 dX12_lost_131 rfl rfl ?_
      refine j_gS C f_X12_103 n_84 q_84_48 dX12_lost_132 ?_
      refine j_iload C 6 dX12_lost_135 rfl ?_
      refine j_lald C n_111 hm dX12_lost_137 (fun hm => ?_)
      refine j_ldc2 C wd_1923 dX12_lost_138 ?_
      refine j_lmul C dX12_lost_141 ?_
      refine j_sub (L' := [(0, .ref (G.1 + 84)), (2, .int v2), (3, .int v3), (4, .int v4), (5, .long v5), (7, .int v7), (8, .int v8)]) [0, 1, 2, 3, 4, 5, 6] rfl ?_
      exact w_Mod_lost_142 C O hm
    · refine j_lconst C 0 dX12_lost_127 (by decide) ?_
      refine j_goto C 142 dX12_lost_128 (by decide) ?_
      refine j_sub (L' := [(0, .ref (G.1 + 84)), (2, .int v2), (3, .int v3), (4, .int v4), (5, .long v5), (7, .int v7), (8, .int v8)]) [0, 1, 2, 3, 4, 5, 6] rfl ?_
      exact w_Mod_lost_142 C O hm
theorem k_Mod_lost_107 {G : jG} {X : jX} (C : jC G X cX12_lost 12 RX12 179 4679) {v2 : Int32} {v3 : Int32} {v4 : Int32} {v5 : Int64} {v7 : Int32} {v8 : Int32} {h : Hp} {out : ((Int32 × Int32 × Int32 × Int64 × Int32 × Hp) ⊕ (Int32 × Hp))} (O : (O_Mod_lost_98 G X) out) (hm : lp (fun q => s_Mod_lost_107 q.1 q.2.1 q.2.2.1 q.2.2.2.1 q.2.2.2.2.1 q.2.2.2.2.2.1 q.2.2.2.2.2.2) (v2, v3, v4, v5, v7, v8, h) = some out) : J G X 107 [(0, .ref (G.1 + 84)), (2, .int v2), (3, .int v3), (4, .int v4), (5, .long v5), (7, .int v7), (8, .int v8)] [] h :=
  lp_ok (P := P_Mod_lost_107 G X) (O := (O_Mod_lost_98 G X)) (fun q r hm O => w_Mod_lost_107 C O hm) hm O
theorem w_Mod_lost_423 {G : jG} {X : jX} (C : jC G X cX12_lost 12 RX12 179 4679) {v5 : Int64} {v7 : Int64} {v9 : Int64} {v11 : Int32} {h : Hp} {out : ((Int64 × Int64 × Int64 × Int32 × Hp) ⊕ (Int32 × Hp))} (O : (O_Mod_lost_423 G X) out) (hm : s_Mod_lost_423 v5 v7 v9 v11 h = some out) : J G X 423 [(5, .long v5), (7, .long v7), (9, .long v9), (11, .int v11)] [] h := by
  unfold s_Mod_lost_423 at hm
  refine j_iload C 3 dX12_lost_423 rfl ?_
  refine j_bipush C 6 dX12_lost_425 (by decide) ?_
  refine j_if_icmpge C 465 dX12_lost_427 (by decide) hm (fun hm => ?_) (fun hm => ?_)
  · refine j_lload C 1 dX12_lost_465 rfl ?_
    refine j_l2i C dX12_lost_467 ?_
    obtain rfl := Option.some.inj hm
    exact j_iret C O dX12_lost_468
  · refine j_lload C 2 dX12_lost_430 rfl ?_
    refine j_ldc2 C wd_1801 dX12_lost_432 ?_
    refine j_lmul C dX12_lost_435 ?_
    refine j_lstore C [(9, .long (v9 * ((10 : Int64)))), (5, .long v5), (7, .long v7), (11, .int v11)] dX12_lost_436 (by decide) rfl ?_
    refine j_lload C 2 dX12_lost_438 rfl ?_
    refine j_ldc2 C wd_1801 dX12_lost_440 ?_
    refine j_lmul C dX12_lost_443 ?_
    refine j_lload C 0 dX12_lost_444 rfl ?_
    refine j_lload C 1 dX12_lost_446 rfl ?_
    obtain ⟨c1, hm⟩ := cnL_inv hm
    refine j_ldiv C dX12_lost_448 c1 ?_
    refine j_ladd C dX12_lost_449 ?_
    refine j_nmL hm (fun x2 hm => ?_)
    refine j_lstore C [(7, .long x2), (9, .long (v9 * ((10 : Int64)))), (5, .long v5), (11, .int v11)] dX12_lost_450 (by decide) rfl ?_
    refine j_lload C 1 dX12_lost_452 rfl ?_
    refine j_lload C 2 dX12_lost_454 rfl ?_
    obtain ⟨c3, hm⟩ := cnL_inv hm
    refine j_lrem C dX12_lost_456 c3 ?_
    refine j_lstore C [(9, .long (z_lrem (v9 * ((10 : Int64))) v5)), (7, .long x2), (5, .long v5), (11, .int v11)] dX12_lost_457 (by decide) rfl ?_
    refine j_iinc C 3 [(11, .int (v11 + (1 : Int32))), (9, .long (z_lrem (v9 * ((10 : Int64))) v5)), (7, .long x2), (5, .long v5)] dX12_lost_459 rfl (add_lit (by decide)) (by decide) rfl ?_
    refine j_goto C 423 dX12_lost_462 (by decide) ?_
    obtain rfl := Option.some.inj hm
    refine j_sub (L' := [(5, .long v5), (7, .long x2), (9, .long (z_lrem (v9 * ((10 : Int64))) v5)), (11, .int (v11 + (1 : Int32)))]) [3, 2, 1, 0] rfl ?_
    exact O
theorem k_Mod_lost_423 {G : jG} {X : jX} (C : jC G X cX12_lost 12 RX12 179 4679) {v5 : Int64} {v7 : Int64} {v9 : Int64} {v11 : Int32} {h : Hp} {out : (Int32 × Hp)} (O : (O_Mod_lost G X) out) (hm : lp (fun q => s_Mod_lost_423 q.1 q.2.1 q.2.2.1 q.2.2.2.1 q.2.2.2.2) (v5, v7, v9, v11, h) = some out) : J G X 423 [(5, .long v5), (7, .long v7), (9, .long v9), (11, .int v11)] [] h :=
  lp_ok (P := P_Mod_lost_423 G X) (O := (O_Mod_lost G X)) (fun q r hm O => w_Mod_lost_423 C O hm) hm O
theorem w_Mod_lost_98 {G : jG} {X : jX} (C : jC G X cX12_lost 12 RX12 179 4679) {v2 : Int32} {v3 : Int32} {v4 : Int32} {v5 : Int64} {v7 : Int32} {h : Hp} {out : ((Int32 × Int32 × Int32 × Int64 × Int32 × Hp) ⊕ (Int32 × Hp))} (O : (O_Mod_lost_98 G X) out) (hm : s_Mod_lost_98 v2 v3 v4 v5 v7 h = some out) : J G X 98 [(0, .ref (G.1 + 84)), (2, .int v2), (3, .int v3), (4, .int v4), (5, .long v5), (7, .int v7)] [] h := by
  unfold s_Mod_lost_98 at hm
  refine j_iload C 5 dX12_lost_98 rfl ?_
  refine j_iload_n C 2 dX12_lost_100 rfl rfl ?_
  refine j_if_icmpge C 396 dX12_lost_101 (by decide) hm (fun hm => ?_) (fun hm => ?_)
  · refine j_aload_n C 0 dX12_lost_396 rfl rfl ?_
    refine j_gS C f_X12_103 n_84 q_84_48 dX12_lost_397 ?_
    refine j_iload C 3 dX12_lost_400 rfl ?_
    refine j_lald C n_111 hm dX12_lost_402 (fun hm => ?_)
    refine j_lload C 4 dX12_lost_403 rfl ?_
    obtain ⟨c1, hm⟩ := cnL_inv hm
    refine j_ldiv C dX12_lost_405 c1 ?_
    refine j_lstore C [(7, .long ((hL h 111 (ix v4)) / v5)), (0, .ref (G.1 + 84)), (2, .int v2), (3, .int v3), (4, .int v4), (5, .long v5)] dX12_lost_406 (by decide) rfl ?_
    refine j_aload_n C 1 dX12_lost_408 rfl rfl ?_
    refine j_gS C f_X12_103 n_84 q_84_48 dX12_lost_409 ?_
    refine j_iload C 4 dX12_lost_412 rfl ?_
    refine j_lald C n_111 hm dX12_lost_414 (fun hm => ?_)
    refine j_lload C 5 dX12_lost_415 rfl ?_
    obtain ⟨c2, hm⟩ := cnL_inv hm
    refine j_lrem C dX12_lost_417 c2 ?_
    refine j_lstore C [(9, .long (z_lrem (hL h 111 (ix v4)) v5)), (7, .long ((hL h 111 (ix v4)) / v5)), (0, .ref (G.1 + 84)), (2, .int v2), (3, .int v3), (4, .int v4), (5, .long v5)] dX12_lost_418 (by decide) rfl ?_
    refine j_iconst C 0 dX12_lost_420 (by decide) ?_
    refine j_istore C [(11, .int ((0 : Int32))), (9, .long (z_lrem (hL h 111 (ix v4)) v5)), (7, .long ((hL h 111 (ix v4)) / v5)), (0, .ref (G.1 + 84)), (2, .int v2), (3, .int v3), (4, .int v4), (5, .long v5)] dX12_lost_421 (by decide) rfl ?_
    obtain ⟨o_0, hm_0, rfl⟩ := inr_inv hm
    refine j_sub (L' := [(5, .long v5), (7, .long ((hL h 111 (ix v4)) / v5)), (9, .long (z_lrem (hL h 111 (ix v4)) v5)), (11, .int ((0 : Int32)))]) [7, 2, 1, 0] rfl ?_
    exact k_Mod_lost_423 C O hm_0
  · refine j_iconst C 0 dX12_lost_104 (by decide) ?_
    refine j_istore C [(8, .int ((0 : Int32))), (0, .ref (G.1 + 84)), (2, .int v2), (3, .int v3), (4, .int v4), (5, .long v5), (7, .int v7)] dX12_lost_105 (by decide) rfl ?_
    refine j_sub (L' := [(0, .ref (G.1 + 84)), (2, .int v2), (3, .int v3), (4, .int v4), (5, .long v5), (7, .int v7), (8, .int ((0 : Int32)))]) [1, 2, 3, 4, 5, 6, 0] rfl ?_
    exact k_Mod_lost_107 C O hm
theorem k_Mod_lost_98 {G : jG} {X : jX} (C : jC G X cX12_lost 12 RX12 179 4679) {v2 : Int32} {v3 : Int32} {v4 : Int32} {v5 : Int64} {v7 : Int32} {h : Hp} {out : (Int32 × Hp)} (O : (O_Mod_lost G X) out) (hm : lp (fun q => s_Mod_lost_98 q.1 q.2.1 q.2.2.1 q.2.2.2.1 q.2.2.2.2.1 q.2.2.2.2.2) (v2, v3, v4, v5, v7, h) = some out) : J G X 98 [(0, .ref (G.1 + 84)), (2, .int v2), (3, .int v3), (4, .int v4), (5, .long v5), (7, .int v7)] [] h :=
  lp_ok (P := P_Mod_lost_98 G X) (O := (O_Mod_lost G X)) (fun q r hm O => w_Mod_lost_98 C O hm) hm O
theorem w_Mod_lost_61 {G : jG} {X : jX} (C : jC G X cX12_lost 12 RX12 179 4679) {v1 : Int32} {v2 : Int32} {v3 : Int32} {v4 : Int32} {v5 : Int32} {h : Hp} {out : ((Int32 × Int32 × Int32 × Int32 × Int32 × Hp) ⊕ (Int32 × Hp))} (O : (O_Mod_lost_61 G X) out) (hm : s_Mod_lost_61 v1 v2 v3 v4 v5 h = some out) : J G X 61 [(0, .ref (G.1 + 84)), (1, .int v1), (2, .int v2), (3, .int v3), (4, .int v4), (5, .int v5)] [] h := by
  unfold s_Mod_lost_61 at hm
  refine j_iload C 5 dX12_lost_61 rfl ?_
  refine j_bipush C 52 dX12_lost_63 (by decide) ?_
  refine j_if_icmpge C 92 dX12_lost_65 (by decide) hm (fun hm => ?_) (fun hm => ?_)
  · refine j_lconst C 1 dX12_lost_92 (by decide) ?_
    refine j_lstore C [(5, .long ((1 : Int64))), (0, .ref (G.1 + 84)), (1, .int v1), (2, .int v2), (3, .int v3), (4, .int v4)] dX12_lost_93 (by decide) rfl ?_
    refine j_iconst C 0 dX12_lost_95 (by decide) ?_
    refine j_istore C [(7, .int ((0 : Int32))), (5, .long ((1 : Int64))), (0, .ref (G.1 + 84)), (1, .int v1), (2, .int v2), (3, .int v3), (4, .int v4)] dX12_lost_96 (by decide) rfl ?_
    obtain ⟨o_0, hm_0, rfl⟩ := inr_inv hm
    refine j_sub (L' := [(0, .ref (G.1 + 84)), (2, .int v2), (3, .int v3), (4, .int v4), (5, .long ((1 : Int64))), (7, .int ((0 : Int32)))]) [2, 4, 5, 6, 1, 0] rfl ?_
    exact k_Mod_lost_98 C O hm_0
  · refine j_aload_n C 0 dX12_lost_68 rfl rfl ?_
    refine j_gS C f_X12_103 n_84 q_84_48 dX12_lost_69 ?_
    refine j_iload C 5 dX12_lost_72 rfl ?_
    refine j_iload C 5 dX12_lost_74 rfl ?_
    refine j_iload_n C 1 dX12_lost_76 rfl rfl ?_
    refine j_if_icmpne C 84 dX12_lost_77 (by decide) hm (fun hm => ?_) (fun hm => ?_)
    · refine j_lconst C 1 dX12_lost_80 (by decide) ?_
      refine j_goto C 85 dX12_lost_81 (by decide) ?_
      refine j_sub (L' := [(0, .ref (G.1 + 84)), (1, .int v1), (2, .int v2), (3, .int v3), (4, .int v4), (5, .int v5)]) [0, 1, 2, 3, 4, 5] rfl ?_
      exact w_Mod_lost_85 C O hm
    · refine j_lconst C 0 dX12_lost_84 (by decide) ?_
      refine j_sub (L' := [(0, .ref (G.1 + 84)), (1, .int v1), (2, .int v2), (3, .int v3), (4, .int v4), (5, .int v5)]) [0, 1, 2, 3, 4, 5] rfl ?_
      exact w_Mod_lost_85 C O hm
theorem k_Mod_lost_61 {G : jG} {X : jX} (C : jC G X cX12_lost 12 RX12 179 4679) {v1 : Int32} {v2 : Int32} {v3 : Int32} {v4 : Int32} {v5 : Int32} {h : Hp} {out : (Int32 × Hp)} (O : (O_Mod_lost G X) out) (hm : lp (fun q => s_Mod_lost_61 q.1 q.2.1 q.2.2.1 q.2.2.2.1 q.2.2.2.2.1 q.2.2.2.2.2) (v1, v2, v3, v4, v5, h) = some out) : J G X 61 [(0, .ref (G.1 + 84)), (1, .int v1), (2, .int v2), (3, .int v3), (4, .int v4), (5, .int v5)] [] h :=
  lp_ok (P := P_Mod_lost_61 G X) (O := (O_Mod_lost G X)) (fun q r hm O => w_Mod_lost_61 C O hm) hm O
theorem w_Mod_lost {G : jG} {X : jX} (C : jC G X cX12_lost 12 RX12 179 4679) {v1 : Int32} {v2 : Int32} {v3 : Int32} {v4 : Int32} {h : Hp} {out : (Int32 × Hp)} (O : (O_Mod_lost G X) out) (hm : s_Mod_lost v1 v2 v3 v4 h = some out) : J G X 0 [(0, .ref (G.1 + 84)), (1, .int v1), (2, .int v2), (3, .int v3), (4, .int v4)] [] h := by
  unfold s_Mod_lost at hm
  refine j_iload_n C 1 dX12_lost_0 rfl rfl ?_
  refine j_cS C l_X12_334 [.int v1] [] (fun u1 => some (.int u1)) (fun _ => h) (fun u1 => [.int u1]) hm (fun l u hu => c_Mod_isCell hu) rfl (Nat.le_of_ble_eq_true rfl) rfl (Nat.le_of_ble_eq_true rfl) (Nat.le_of_ble_eq_true rfl) (fun _ => rfl) dX12_lost_1 (fun u1 hm => ?_)
  refine j_ifeq C 52 dX12_lost_4 (by decide) hm (fun hm => ?_) (fun hm => ?_)
  · refine j_sub (L' := []) [] rfl ?_
    exact w_Mod_lost_52 C O hm
  · refine j_iload_n C 2 dX12_lost_7 rfl rfl ?_
    refine j_cS C l_X12_364 [.int v2] [] (fun u2 => some (.int u2)) (fun _ => h) (fun u2 => [.int u2]) hm (fun l u hu => c_Mod_isStep hu) rfl (Nat.le_of_ble_eq_true rfl) rfl (Nat.le_of_ble_eq_true rfl) (Nat.le_of_ble_eq_true rfl) (fun _ => rfl) dX12_lost_8 (fun u2 hm => ?_)
    refine j_ifeq C 52 dX12_lost_11 (by decide) hm (fun hm => ?_) (fun hm => ?_)
    · refine j_sub (L' := []) [] rfl ?_
      exact w_Mod_lost_52 C O hm
    · refine j_iload_n C 3 dX12_lost_14 rfl rfl ?_
      refine j_iconst C 0 dX12_lost_15 (by decide) ?_
      refine j_bipush C 6 dX12_lost_16 (by decide) ?_
      refine j_cS C l_X12_113 [.int v3, .int ((0 : Int32)), .int ((6 : Int32))] [] (fun u3 => some (.int u3)) (fun _ => h) (fun u3 => [.int u3]) hm (fun l u hu => c_Mod_lies hu) rfl (Nat.le_of_ble_eq_true rfl) rfl (Nat.le_of_ble_eq_true rfl) (Nat.le_of_ble_eq_true rfl) (fun _ => rfl) dX12_lost_18 (fun u3 hm => ?_)
      refine j_ifeq C 52 dX12_lost_21 (by decide) hm (fun hm => ?_) (fun hm => ?_)
      · refine j_sub (L' := []) [] rfl ?_
        exact w_Mod_lost_52 C O hm
      · refine j_iload C 4 dX12_lost_24 rfl ?_
        refine j_iconst C 0 dX12_lost_26 (by decide) ?_
        refine j_bipush C 51 dX12_lost_27 (by decide) ?_
        refine j_cS C l_X12_113 [.int v4, .int ((0 : Int32)), .int ((51 : Int32))] [] (fun u4 => some (.int u4)) (fun _ => h) (fun u4 => [.int u4]) hm (fun l u hu => c_Mod_lies hu) rfl (Nat.le_of_ble_eq_true rfl) rfl (Nat.le_of_ble_eq_true rfl) (Nat.le_of_ble_eq_true rfl) (fun _ => rfl) dX12_lost_29 (fun u4 hm => ?_)
        refine j_ifeq C 52 dX12_lost_32 (by decide) hm (fun hm => ?_) (fun hm => ?_)
        · refine j_sub (L' := []) [] rfl ?_
          exact w_Mod_lost_52 C O hm
        · refine j_iload_n C 2 dX12_lost_35 rfl rfl ?_
          refine j_iload_n C 3 dX12_lost_36 rfl rfl ?_
          refine j_iadd C dX12_lost_37 ?_
          refine j_sipush C 144 dX12_lost_38 (by decide) ?_
          refine j_if_icmpge C 52 dX12_lost_41 (by decide) hm (fun hm => ?_) (fun hm => ?_)
          · refine j_sub (L' := []) [] rfl ?_
            exact w_Mod_lost_52 C O hm
          · refine j_aload_n C 0 dX12_lost_44 rfl rfl ?_
            refine j_iload_n C 1 dX12_lost_45 rfl rfl ?_
            refine j_cV C l_X12_343 [.int v1] [] (fun u5 => some (.int u5)) (fun _ => h) (fun u5 => [.int u5]) n_84 hm (fun l u hu => c_Mod_kindOf hu) rfl (Nat.le_of_ble_eq_true rfl) rfl (Nat.le_of_ble_eq_true rfl) (Nat.le_of_ble_eq_true rfl) (fun _ => rfl) dX12_lost_46 (fun u5 hm => ?_)
            refine j_ifne C 54 dX12_lost_49 (by decide) hm (fun hm => ?_) (fun hm => ?_)
            · refine j_sub (L' := []) [] rfl ?_
              exact w_Mod_lost_52 C O hm
            · refine j_aload_n C 0 dX12_lost_54 rfl rfl ?_
              refine j_cV C l_X12_321 [] [] (fun _ => none) (fun u6 => u6) (fun u6 => []) n_84 hm (fun l u hu => c_Mod_looks hu) rfl (Nat.le_of_ble_eq_true rfl) rfl (Nat.le_of_ble_eq_true rfl) (Nat.le_of_ble_eq_true rfl) (fun _ => rfl) dX12_lost_55 (fun u6 hm => ?_)
              refine j_iconst C 0 dX12_lost_58 (by decide) ?_
              refine j_istore C [(5, .int ((0 : Int32))), (0, .ref (G.1 + 84)), (1, .int v1), (2, .int v2), (3, .int v3), (4, .int v4)] dX12_lost_59 (by decide) rfl ?_
              refine j_sub (L' := [(0, .ref (G.1 + 84)), (1, .int v1), (2, .int v2), (3, .int v3), (4, .int v4), (5, .int ((0 : Int32)))]) [1, 2, 3, 4, 5, 0] rfl ?_
              exact k_Mod_lost_61 C O hm
theorem c_Mod_lost {G : jG} {l : Launch} {v1 : Int32} {v2 : Int32} {v3 : Int32} {v4 : Int32} {h : Hp} {out : (Int32 × Hp)} (hm : s_Mod_lost v1 v2 v3 v4 h = some out) : mt G l yX12_lost cX12_lost 12 (some .int) 179 4679 [.ref (G.1 + 84), .int v1, .int v2, .int v3, .int v4] h (some (.int out.1)) out.2 :=
  mt_of (by decide) (Nat.le_of_ble_eq_true rfl) _ rfl (fun X I C O => w_Mod_lost C O hm)
noncomputable def s_Mod_margin_74 (v4 : Int32) (h : Hp) : Option (Int32 × Hp) :=
  some (v4 - ((1 : Int32)), h)
noncomputable def s_Mod_margin_20 (v1 : Int32) (v2 : Int32) (v3 : Int32) (v4 : Int32) (h : Hp) : Option ((Int32 × Int32 × Int32 × Int32 × Hp) ⊕ (Int32 × Hp)) :=
  if ((60 : Int32)) < v4 then
    inr (s_Mod_margin_74 v4 h)
  else
    (s_Mod_doneOf v1 v2 v3 v4 h).bind fun u1 => ib ((187 : Int32)) 4998 <| if u1 = (hI h 86 (ix ((187 : Int32)))) then
      (s_Mod_doneOf v1 v2 v3 (-v4) h).bind fun u2 => ib ((187 : Int32)) 4998 <| if u2 = (hI h 86 (ix ((187 : Int32)))) then
        some (.inl (v1, v2, v3, (v4 + (1 : Int32)), h))
      else
        inr (s_Mod_margin_74 v4 h)
    else
      inr (s_Mod_margin_74 v4 h)
noncomputable def s_Mod_margin (v1 : Int32) (v2 : Int32) (v3 : Int32) (h : Hp) : Option (Int32 × Hp) :=
  (s_Mod_isWay v1 v2 v3 v3 h).bind fun u1 => if u1 = 0 then
    some ((-1 : Int32), h)
  else
    (s_Mod_looks h).bind fun u2 => lp (fun q => s_Mod_margin_20 q.1 q.2.1 q.2.2.1 q.2.2.2.1 q.2.2.2.2) (v1, v2, v3, ((0 : Int32)), u2)
def O_Mod_margin (G : jG) (X : jX) (out : (Int32 × Hp)) : Prop := jO G X (some .int) (some (.int out.1)) out.2
def P_Mod_margin_20 (G : jG) (X : jX) (q : Int32 × Int32 × Int32 × Int32 × Hp) : Prop := J G X 20 [(0, .ref (G.1 + 84)), (1, .int q.1), (2, .int q.2.1), (3, .int q.2.2.1), (4, .int q.2.2.2.1)] [] q.2.2.2.2
def O_Mod_margin_20 (G : jG) (X : jX) (t : ((Int32 × Int32 × Int32 × Int32 × Hp) ⊕ (Int32 × Hp))) : Prop := Sum.elim (P_Mod_margin_20 G X) (O_Mod_margin G X) t
theorem w_Mod_margin_74 {G : jG} {X : jX} (C : jC G X cX12_margin 5 RX12 179 4679) {v4 : Int32} {h : Hp} {out : (Int32 × Hp)} (O : (O_Mod_margin G X) out) (hm : s_Mod_margin_74 v4 h = some out) : J G X 74 [(4, .int v4)] [] h := by
  unfold s_Mod_margin_74 at hm
  refine j_iload C 0 dX12_margin_74 rfl ?_
  refine j_iconst C 1 dX12_margin_76 (by decide) ?_
  refine j_isub C dX12_margin_77 ?_
  obtain rfl := Option.some.inj hm
  exact j_iret C O dX12_margin_78
theorem w_Mod_margin_20 {G : jG} {X : jX} (C : jC G X cX12_margin 5 RX12 179 4679) {v1 : Int32} {v2 : Int32} {v3 : Int32} {v4 : Int32} {h : Hp} {out : ((Int32 × Int32 × Int32 × Int32 × Hp) ⊕ (Int32 × Hp))} (O : (O_Mod_margin_20 G X) out) (hm : s_Mod_margin_20 v1 v2 v3 v4 h = some out) : J G X 20 [(0, .ref (G.1 + 84)), (1, .int v1), (2, .int v2), (3, .int v3), (4, .int v4)] [] h := by
  unfold s_Mod_margin_20 at hm
  refine j_iload C 4 dX12_margin_20 rfl ?_
  refine j_bipush C 60 dX12_margin_22 (by decide) ?_
  refine j_if_icmpgt C 74 dX12_margin_24 (by decide) hm (fun hm => ?_) (fun hm => ?_)
  · obtain ⟨o_0, hm_0, rfl⟩ := inr_inv hm
    refine j_sub (L' := [(4, .int v4)]) [4] rfl ?_
    exact w_Mod_margin_74 C O hm_0
  · refine j_aload_n C 0 dX12_margin_27 rfl rfl ?_
    refine j_iload_n C 1 dX12_margin_28 rfl rfl ?_
    refine j_iload_n C 2 dX12_margin_29 rfl rfl ?_
    refine j_iload_n C 3 dX12_margin_30 rfl rfl ?_
    refine j_iload C 4 dX12_margin_31 rfl ?_
    refine j_cV C l_X12_374 [.int v1, .int v2, .int v3, .int v4] [] (fun u1 => some (.int u1)) (fun _ => h) (fun u1 => [.int u1]) n_84 hm (fun l u hu => c_Mod_doneOf hu) rfl (Nat.le_of_ble_eq_true rfl) rfl (Nat.le_of_ble_eq_true rfl) (Nat.le_of_ble_eq_true rfl) (fun _ => rfl) dX12_margin_33 (fun u1 hm => ?_)
    refine j_aload_n C 0 dX12_margin_36 rfl rfl ?_
    refine j_gS C f_X12_20 n_84 q_84_3 dX12_margin_37 ?_
    refine j_sipush C 187 dX12_margin_40 (by decide) ?_
    refine j_iald C n_86 hm dX12_margin_43 (fun hm => ?_)
    refine j_if_icmpne C 74 dX12_margin_44 (by decide) hm (fun hm => ?_) (fun hm => ?_)
    · refine j_aload_n C 0 dX12_margin_47 rfl rfl ?_
      refine j_iload_n C 1 dX12_margin_48 rfl rfl ?_
      refine j_iload_n C 2 dX12_margin_49 rfl rfl ?_
      refine j_iload_n C 3 dX12_margin_50 rfl rfl ?_
      refine j_iload C 4 dX12_margin_51 rfl ?_
      refine j_ineg C dX12_margin_53 ?_
      refine j_cV C l_X12_374 [.int v1, .int v2, .int v3, .int (-v4)] [] (fun u2 => some (.int u2)) (fun _ => h) (fun u2 => [.int u2]) n_84 hm (fun l u hu => c_Mod_doneOf hu) rfl (Nat.le_of_ble_eq_true rfl) rfl (Nat.le_of_ble_eq_true rfl) (Nat.le_of_ble_eq_true rfl) (fun _ => rfl) dX12_margin_54 (fun u2 hm => ?_)
      refine j_aload_n C 0 dX12_margin_57 rfl rfl ?_
      refine j_gS C f_X12_20 n_84 q_84_3 dX12_margin_58 ?_
      refine j_sipush C 187 dX12_margin_61 (by decide) ?_
      refine j_iald C n_86 hm dX12_margin_64 (fun hm => ?_)
      refine j_if_icmpne C 74 dX12_margin_65 (by decide) hm (fun hm => ?_) (fun hm => ?_)
      · refine j_iinc C 4 [(4, .int (v4 + (1 : Int32))), (0, .ref (G.1 + 84)), (1, .int v1), (2, .int v2), (3, .int v3)] dX12_margin_68 rfl (add_lit (by decide)) (by decide) rfl ?_
        refine j_goto C 20 dX12_margin_71 (by decide) ?_
        obtain rfl := Option.some.inj hm
        refine j_sub (L' := [(0, .ref (G.1 + 84)), (1, .int v1), (2, .int v2), (3, .int v3), (4, .int (v4 + (1 : Int32)))]) [1, 2, 3, 4, 0] rfl ?_
        exact O
      · obtain ⟨o_0, hm_0, rfl⟩ := inr_inv hm
        refine j_sub (L' := [(4, .int v4)]) [4] rfl ?_
        exact w_Mod_margin_74 C O hm_0
    · obtain ⟨o_0, hm_0, rfl⟩ := inr_inv hm
      refine j_sub (L' := [(4, .int v4)]) [4] rfl ?_
      exact w_Mod_margin_74 C O hm_0
theorem k_Mod_margin_20 {G : jG} {X : jX} (C : jC G X cX12_margin 5 RX12 179 4679) {v1 : Int32} {v2 : Int32} {v3 : Int32} {v4 : Int32} {h : Hp} {out : (Int32 × Hp)} (O : (O_Mod_margin G X) out) (hm : lp (fun q => s_Mod_margin_20 q.1 q.2.1 q.2.2.1 q.2.2.2.1 q.2.2.2.2) (v1, v2, v3, v4, h) = some out) : J G X 20 [(0, .ref (G.1 + 84)), (1, .int v1), (2, .int v2), (3, .int v3), (4, .int v4)] [] h :=
  lp_ok (P := P_Mod_margin_20 G X) (O := (O_Mod_margin G X)) (fun q r hm O => w_Mod_margin_20 C O hm) hm O
theorem w_Mod_margin {G : jG} {X : jX} (C : jC G X cX12_margin 5 RX12 179 4679) {v1 : Int32} {v2 : Int32} {v3 : Int32} {h : Hp} {out : (Int32 × Hp)} (O : (O_Mod_margin G X) out) (hm : s_Mod_margin v1 v2 v3 h = some out) : J G X 0 [(0, .ref (G.1 + 84)), (1, .int v1), (2, .int v2), (3, .int v3)] [] h := by
  unfold s_Mod_margin at hm
  refine j_aload_n C 0 dX12_margin_0 rfl rfl ?_
  refine j_iload_n C 1 dX12_margin_1 rfl rfl ?_
  refine j_iload_n C 2 dX12_margin_2 rfl rfl ?_
  refine j_iload_n C 3 dX12_margin_3 rfl rfl ?_
  refine j_iload_n C 3 dX12_margin_4 rfl rfl ?_
  refine j_cV C l_X12_367 [.int v1, .int v2, .int v3, .int v3] [] (fun u1 => some (.int u1)) (fun _ => h) (fun u1 => [.int u1]) n_84 hm (fun l u hu => c_Mod_isWay hu) rfl (Nat.le_of_ble_eq_true rfl) rfl (Nat.le_of_ble_eq_true rfl) (Nat.le_of_ble_eq_true rfl) (fun _ => rfl) dX12_margin_5 (fun u1 hm => ?_)
  refine j_ifne C 13 dX12_margin_8 (by decide) hm (fun hm => ?_) (fun hm => ?_)
  · refine j_iconst C (-1 : Int32) dX12_margin_11 (by decide) ?_
    obtain rfl := Option.some.inj hm
    exact j_iret C O dX12_margin_12
  · refine j_aload_n C 0 dX12_margin_13 rfl rfl ?_
    refine j_cV C l_X12_321 [] [] (fun _ => none) (fun u2 => u2) (fun u2 => []) n_84 hm (fun l u hu => c_Mod_looks hu) rfl (Nat.le_of_ble_eq_true rfl) rfl (Nat.le_of_ble_eq_true rfl) (Nat.le_of_ble_eq_true rfl) (fun _ => rfl) dX12_margin_14 (fun u2 hm => ?_)
    refine j_iconst C 0 dX12_margin_17 (by decide) ?_
    refine j_istore C [(4, .int ((0 : Int32))), (0, .ref (G.1 + 84)), (1, .int v1), (2, .int v2), (3, .int v3)] dX12_margin_18 (by decide) rfl ?_
    refine j_sub (L' := [(0, .ref (G.1 + 84)), (1, .int v1), (2, .int v2), (3, .int v3), (4, .int ((0 : Int32)))]) [1, 2, 3, 4, 0] rfl ?_
    exact k_Mod_margin_20 C O hm
theorem c_Mod_margin {G : jG} {l : Launch} {v1 : Int32} {v2 : Int32} {v3 : Int32} {h : Hp} {out : (Int32 × Hp)} (hm : s_Mod_margin v1 v2 v3 h = some out) : mt G l yX12_margin cX12_margin 5 (some .int) 179 4679 [.ref (G.1 + 84), .int v1, .int v2, .int v3] h (some (.int out.1)) out.2 :=
  mt_of (by decide) (Nat.le_of_ble_eq_true rfl) _ rfl (fun X I C O => w_Mod_margin C O hm)
noncomputable def s_Mod_rightBy_90 (v1 : Int32) (v2 : Int64) (v4 : Int32) (v5 : Int32) (h : Hp) : Option ((Int32 × Int64 × Int32 × Int32) ⊕ Int32) :=
  some (.inl (v1, v2, v4, (v5 + (1 : Int32))))
noncomputable def s_Mod_rightBy_87 (v1 : Int32) (v2 : Int64) (v5 : Int32) (s0 : Int32) (s1 : Int32) (h : Hp) : Option ((Int32 × Int64 × Int32 × Int32) ⊕ Int32) :=
  s_Mod_rightBy_90 v1 v2 (s1 + s0) v5 h
noncomputable def s_Mod_rightBy_79 (v1 : Int32) (v2 : Int64) (v5 : Int32) (s0 : Int32) (s1 : Int32) (s2 : Int32) (h : Hp) : Option ((Int32 × Int64 × Int32 × Int32) ⊕ Int32) :=
  if s1 = s0 then
    s_Mod_rightBy_87 v1 v2 v5 ((1 : Int32)) s2 h
  else
    s_Mod_rightBy_87 v1 v2 v5 ((0 : Int32)) s2 h
noncomputable def s_Mod_rightBy_56 (v1 : Int32) (v2 : Int64) (v5 : Int32) (s0 : Int32) (s1 : Int32) (h : Hp) : Option ((Int32 × Int64 × Int32 × Int32) ⊕ Int32) :=
  ib v5 1440 <| (s_Mod_size (hI h 97 (ix v5)) h).bind fun u1 => (s_Mod_term ((3 : Int32)) h).bind fun u2 => if u2 < u1 then
    s_Mod_rightBy_79 v1 v2 v5 ((0 : Int32)) s0 s1 h
  else
    s_Mod_rightBy_79 v1 v2 v5 ((1 : Int32)) s0 s1 h
noncomputable def s_Mod_rightBy_55 (v1 : Int32) (v2 : Int64) (v5 : Int32) (s0 : Int32) (h : Hp) : Option ((Int32 × Int64 × Int32 × Int32) ⊕ Int32) :=
  s_Mod_rightBy_56 v1 v2 v5 ((0 : Int32)) s0 h
noncomputable def s_Mod_rightBy_6 (v1 : Int32) (v2 : Int64) (v4 : Int32) (v5 : Int32) (h : Hp) : Option ((Int32 × Int64 × Int32 × Int32) ⊕ Int32) :=
  if ((1440 : Int32)) ≤ v5 then
    some (.inr (v4))
  else
    ib v5 1440 <| if (hI h 109 (ix v5)) = ((-1 : Int32)) then
      s_Mod_rightBy_90 v1 v2 v4 v5 h
    else
      ib v5 1440 <| if (hI h 109 (ix v5)) < v1 then
        s_Mod_rightBy_55 v1 v2 v5 v4 h
      else
        ib v5 1440 <| if 0 < (lg_cmp (Int32.toInt64 (hI h 109 (ix v5))) v2) then
          s_Mod_rightBy_55 v1 v2 v5 v4 h
        else
          s_Mod_rightBy_56 v1 v2 v5 ((1 : Int32)) v4 h
noncomputable def s_Mod_rightBy (v1 : Int32) (v2 : Int64) (h : Hp) : Option Int32 :=
  lp (fun q => s_Mod_rightBy_6 q.1 q.2.1 q.2.2.1 q.2.2.2 h) (v1, v2, ((0 : Int32)), ((0 : Int32)))
def O_Mod_rightBy (G : jG) (X : jX) (h : Hp) (out : Int32) : Prop := jO G X (some .int) (some (.int out)) h
def P_Mod_rightBy_6 (G : jG) (X : jX) (h : Hp) (q : Int32 × Int64 × Int32 × Int32) : Prop := J G X 6 [(0, .ref (G.1 + 84)), (1, .int q.1), (2, .long q.2.1), (4, .int q.2.2.1), (5, .int q.2.2.2)] [] h
def O_Mod_rightBy_6 (G : jG) (X : jX) (h : Hp) (t : ((Int32 × Int64 × Int32 × Int32) ⊕ Int32)) : Prop := Sum.elim (P_Mod_rightBy_6 G X h) (O_Mod_rightBy G X h) t
theorem w_Mod_rightBy_90 {G : jG} {X : jX} (C : jC G X cX12_rightBy 6 RX12 2 91) {v1 : Int32} {v2 : Int64} {v4 : Int32} {v5 : Int32} {h : Hp} {out : ((Int32 × Int64 × Int32 × Int32) ⊕ Int32)} (O : (O_Mod_rightBy_6 G X h) out) (hm : s_Mod_rightBy_90 v1 v2 v4 v5 h = some out) : J G X 90 [(0, .ref (G.1 + 84)), (1, .int v1), (2, .long v2), (4, .int v4), (5, .int v5)] [] h := by
  unfold s_Mod_rightBy_90 at hm
  refine j_iinc C 4 [(5, .int (v5 + (1 : Int32))), (0, .ref (G.1 + 84)), (1, .int v1), (2, .long v2), (4, .int v4)] dX12_rightBy_90 rfl (add_lit (by decide)) (by decide) rfl ?_
  refine j_goto C 6 dX12_rightBy_93 (by decide) ?_
  obtain rfl := Option.some.inj hm
  refine j_sub (L' := [(0, .ref (G.1 + 84)), (1, .int v1), (2, .long v2), (4, .int v4), (5, .int (v5 + (1 : Int32)))]) [1, 2, 3, 4, 0] rfl ?_
  exact O
theorem w_Mod_rightBy_87 {G : jG} {X : jX} (C : jC G X cX12_rightBy 6 RX12 2 91) {v1 : Int32} {v2 : Int64} {v5 : Int32} {s0 : Int32} {s1 : Int32} {h : Hp} {out : ((Int32 × Int64 × Int32 × Int32) ⊕ Int32)} (O : (O_Mod_rightBy_6 G X h) out) (hm : s_Mod_rightBy_87 v1 v2 v5 s0 s1 h = some out) : J G X 87 [(0, .ref (G.1 + 84)), (1, .int v1), (2, .long v2), (5, .int v5)] [.int s0, .int s1] h := by
  unfold s_Mod_rightBy_87 at hm
  refine j_iadd C dX12_rightBy_87 ?_
  refine j_istore C [(4, .int (s1 + s0)), (0, .ref (G.1 + 84)), (1, .int v1), (2, .long v2), (5, .int v5)] dX12_rightBy_88 (by decide) rfl ?_
  refine j_sub (L' := [(0, .ref (G.1 + 84)), (1, .int v1), (2, .long v2), (4, .int (s1 + s0)), (5, .int v5)]) [1, 2, 3, 0, 4] rfl ?_
  exact w_Mod_rightBy_90 C O hm
theorem w_Mod_rightBy_79 {G : jG} {X : jX} (C : jC G X cX12_rightBy 6 RX12 2 91) {v1 : Int32} {v2 : Int64} {v5 : Int32} {s0 : Int32} {s1 : Int32} {s2 : Int32} {h : Hp} {out : ((Int32 × Int64 × Int32 × Int32) ⊕ Int32)} (O : (O_Mod_rightBy_6 G X h) out) (hm : s_Mod_rightBy_79 v1 v2 v5 s0 s1 s2 h = some out) : J G X 79 [(0, .ref (G.1 + 84)), (1, .int v1), (2, .long v2), (5, .int v5)] [.int s0, .int s1, .int s2] h := by
  unfold s_Mod_rightBy_79 at hm
  refine j_if_icmpne C 86 dX12_rightBy_79 (by decide) hm (fun hm => ?_) (fun hm => ?_)
  · refine j_iconst C 1 dX12_rightBy_82 (by decide) ?_
    refine j_goto C 87 dX12_rightBy_83 (by decide) ?_
    refine j_sub (L' := [(0, .ref (G.1 + 84)), (1, .int v1), (2, .long v2), (5, .int v5)]) [0, 1, 2, 3] rfl ?_
    exact w_Mod_rightBy_87 C O hm
  · refine j_iconst C 0 dX12_rightBy_86 (by decide) ?_
    refine j_sub (L' := [(0, .ref (G.1 + 84)), (1, .int v1), (2, .long v2), (5, .int v5)]) [0, 1, 2, 3] rfl ?_
    exact w_Mod_rightBy_87 C O hm
theorem w_Mod_rightBy_56 {G : jG} {X : jX} (C : jC G X cX12_rightBy 6 RX12 2 91) {v1 : Int32} {v2 : Int64} {v5 : Int32} {s0 : Int32} {s1 : Int32} {h : Hp} {out : ((Int32 × Int64 × Int32 × Int32) ⊕ Int32)} (O : (O_Mod_rightBy_6 G X h) out) (hm : s_Mod_rightBy_56 v1 v2 v5 s0 s1 h = some out) : J G X 56 [(0, .ref (G.1 + 84)), (1, .int v1), (2, .long v2), (5, .int v5)] [.int s0, .int s1] h := by
  unfold s_Mod_rightBy_56 at hm
  refine j_aload_n C 0 dX12_rightBy_56 rfl rfl ?_
  refine j_gS C f_X12_58 n_84 q_84_26 dX12_rightBy_57 ?_
  refine j_iload C 3 dX12_rightBy_60 rfl ?_
  refine j_iald C n_97 hm dX12_rightBy_62 (fun hm => ?_)
  refine j_cS C l_X12_304 [.int (hI h 97 (ix v5))] [.int s0, .int s1] (fun u1 => some (.int u1)) (fun _ => h) (fun u1 => [.int u1, .int s0, .int s1]) hm (fun l u hu => c_Mod_size hu) rfl (Nat.le_of_ble_eq_true rfl) rfl (Nat.le_of_ble_eq_true rfl) (Nat.le_of_ble_eq_true rfl) (fun _ => rfl) dX12_rightBy_63 (fun u1 hm => ?_)
  refine j_aload_n C 0 dX12_rightBy_66 rfl rfl ?_
  refine j_iconst C 3 dX12_rightBy_67 (by decide) ?_
  refine j_cV C l_X12_283 [.int ((3 : Int32))] [.int u1, .int s0, .int s1] (fun u2 => some (.int u2)) (fun _ => h) (fun u2 => [.int u2, .int u1, .int s0, .int s1]) n_84 hm (fun l u hu => c_Mod_term hu) rfl (Nat.le_of_ble_eq_true rfl) rfl (Nat.le_of_ble_eq_true rfl) (Nat.le_of_ble_eq_true rfl) (fun _ => rfl) dX12_rightBy_68 (fun u2 hm => ?_)
  refine j_if_icmpgt C 78 dX12_rightBy_71 (by decide) hm (fun hm => ?_) (fun hm => ?_)
  · refine j_iconst C 0 dX12_rightBy_78 (by decide) ?_
    refine j_sub (L' := [(0, .ref (G.1 + 84)), (1, .int v1), (2, .long v2), (5, .int v5)]) [0, 1, 2, 3] rfl ?_
    exact w_Mod_rightBy_79 C O hm
  · refine j_iconst C 1 dX12_rightBy_74 (by decide) ?_
    refine j_goto C 79 dX12_rightBy_75 (by decide) ?_
    refine j_sub (L' := [(0, .ref (G.1 + 84)), (1, .int v1), (2, .long v2), (5, .int v5)]) [0, 1, 2, 3] rfl ?_
    exact w_Mod_rightBy_79 C O hm
theorem w_Mod_rightBy_55 {G : jG} {X : jX} (C : jC G X cX12_rightBy 6 RX12 2 91) {v1 : Int32} {v2 : Int64} {v5 : Int32} {s0 : Int32} {h : Hp} {out : ((Int32 × Int64 × Int32 × Int32) ⊕ Int32)} (O : (O_Mod_rightBy_6 G X h) out) (hm : s_Mod_rightBy_55 v1 v2 v5 s0 h = some out) : J G X 55 [(0, .ref (G.1 + 84)), (1, .int v1), (2, .long v2), (5, .int v5)] [.int s0] h := by
  unfold s_Mod_rightBy_55 at hm
  refine j_iconst C 0 dX12_rightBy_55 (by decide) ?_
  refine j_sub (L' := [(0, .ref (G.1 + 84)), (1, .int v1), (2, .long v2), (5, .int v5)]) [0, 1, 2, 3] rfl ?_
  exact w_Mod_rightBy_56 C O hm
theorem w_Mod_rightBy_6 {G : jG} {X : jX} (C : jC G X cX12_rightBy 6 RX12 2 91) {v1 : Int32} {v2 : Int64} {v4 : Int32} {v5 : Int32} {h : Hp} {out : ((Int32 × Int64 × Int32 × Int32) ⊕ Int32)} (O : (O_Mod_rightBy_6 G X h) out) (hm : s_Mod_rightBy_6 v1 v2 v4 v5 h = some out) : J G X 6 [(0, .ref (G.1 + 84)), (1, .int v1), (2, .long v2), (4, .int v4), (5, .int v5)] [] h := by
  unfold s_Mod_rightBy_6 at hm
  refine j_iload C 4 dX12_rightBy_6 rfl ?_
  refine j_sipush C 1440 dX12_rightBy_8 (by decide) ?_
  refine j_if_icmpge C 96 dX12_rightBy_11 (by decide) hm (fun hm => ?_) (fun hm => ?_)
  · refine j_iload C 3 dX12_rightBy_96 rfl ?_
    obtain rfl := Option.some.inj hm
    exact j_iret C O dX12_rightBy_98
  · refine j_aload_n C 0 dX12_rightBy_14 rfl rfl ?_
    refine j_gS C f_X12_97 n_84 q_84_46 dX12_rightBy_15 ?_
    refine j_iload C 4 dX12_rightBy_18 rfl ?_
    refine j_iald C n_109 hm dX12_rightBy_20 (fun hm => ?_)
    refine j_iconst C (-1 : Int32) dX12_rightBy_21 (by decide) ?_
    refine j_if_icmpeq C 90 dX12_rightBy_22 (by decide) hm (fun hm => ?_) (fun hm => ?_)
    · refine j_sub (L' := [(0, .ref (G.1 + 84)), (1, .int v1), (2, .long v2), (4, .int v4), (5, .int v5)]) [0, 1, 2, 3, 4] rfl ?_
      exact w_Mod_rightBy_90 C O hm
    · refine j_iload C 3 dX12_rightBy_25 rfl ?_
      refine j_aload_n C 0 dX12_rightBy_27 rfl rfl ?_
      refine j_gS C f_X12_97 n_84 q_84_46 dX12_rightBy_28 ?_
      refine j_iload C 4 dX12_rightBy_31 rfl ?_
      refine j_iald C n_109 hm dX12_rightBy_33 (fun hm => ?_)
      refine j_iload_n C 1 dX12_rightBy_34 rfl rfl ?_
      refine j_if_icmplt C 55 dX12_rightBy_35 (by decide) hm (fun hm => ?_) (fun hm => ?_)
      · refine j_sub (L' := [(0, .ref (G.1 + 84)), (1, .int v1), (2, .long v2), (5, .int v5)]) [0, 1, 2, 4] rfl ?_
        exact w_Mod_rightBy_55 C O hm
      · refine j_aload_n C 0 dX12_rightBy_38 rfl rfl ?_
        refine j_gS C f_X12_97 n_84 q_84_46 dX12_rightBy_39 ?_
        refine j_iload C 4 dX12_rightBy_42 rfl ?_
        refine j_iald C n_109 hm dX12_rightBy_44 (fun hm => ?_)
        refine j_i2l C dX12_rightBy_45 ?_
        refine j_lload_n C 2 dX12_rightBy_46 rfl rfl ?_
        refine j_lcmp C dX12_rightBy_47 ?_
        refine j_ifgt C 55 dX12_rightBy_48 (by decide) hm (fun hm => ?_) (fun hm => ?_)
        · refine j_sub (L' := [(0, .ref (G.1 + 84)), (1, .int v1), (2, .long v2), (5, .int v5)]) [0, 1, 2, 4] rfl ?_
          exact w_Mod_rightBy_55 C O hm
        · refine j_iconst C 1 dX12_rightBy_51 (by decide) ?_
          refine j_goto C 56 dX12_rightBy_52 (by decide) ?_
          refine j_sub (L' := [(0, .ref (G.1 + 84)), (1, .int v1), (2, .long v2), (5, .int v5)]) [0, 1, 2, 4] rfl ?_
          exact w_Mod_rightBy_56 C O hm
theorem k_Mod_rightBy_6 {G : jG} {X : jX} (C : jC G X cX12_rightBy 6 RX12 2 91) {v1 : Int32} {v2 : Int64} {v4 : Int32} {v5 : Int32} {h : Hp} {out : Int32} (O : (O_Mod_rightBy G X h) out) (hm : lp (fun q => s_Mod_rightBy_6 q.1 q.2.1 q.2.2.1 q.2.2.2 h) (v1, v2, v4, v5) = some out) : J G X 6 [(0, .ref (G.1 + 84)), (1, .int v1), (2, .long v2), (4, .int v4), (5, .int v5)] [] h :=
  lp_ok (P := P_Mod_rightBy_6 G X h) (O := (O_Mod_rightBy G X h)) (fun q r hm O => w_Mod_rightBy_6 C O hm) hm O
theorem w_Mod_rightBy {G : jG} {X : jX} (C : jC G X cX12_rightBy 6 RX12 2 91) {v1 : Int32} {v2 : Int64} {h : Hp} {out : Int32} (O : (O_Mod_rightBy G X h) out) (hm : s_Mod_rightBy v1 v2 h = some out) : J G X 0 [(0, .ref (G.1 + 84)), (1, .int v1), (2, .long v2)] [] h := by
  unfold s_Mod_rightBy at hm
  refine j_iconst C 0 dX12_rightBy_0 (by decide) ?_
  refine j_istore C [(4, .int ((0 : Int32))), (0, .ref (G.1 + 84)), (1, .int v1), (2, .long v2)] dX12_rightBy_1 (by decide) rfl ?_
  refine j_iconst C 0 dX12_rightBy_3 (by decide) ?_
  refine j_istore C [(5, .int ((0 : Int32))), (4, .int ((0 : Int32))), (0, .ref (G.1 + 84)), (1, .int v1), (2, .long v2)] dX12_rightBy_4 (by decide) rfl ?_
  refine j_sub (L' := [(0, .ref (G.1 + 84)), (1, .int v1), (2, .long v2), (4, .int ((0 : Int32))), (5, .int ((0 : Int32)))]) [2, 3, 4, 1, 0] rfl ?_
  exact k_Mod_rightBy_6 C O hm
theorem c_Mod_rightBy {G : jG} {l : Launch} {v1 : Int32} {v2 : Int64} {h : Hp} {out : Int32} (hm : s_Mod_rightBy v1 v2 h = some out) : mt G l yX12_rightBy cX12_rightBy 6 (some .int) 2 91 [.ref (G.1 + 84), .int v1, .long v2] h (some (.int out)) h :=
  mt_of (by decide) (Nat.le_of_ble_eq_true rfl) _ rfl (fun X I C O => w_Mod_rightBy C O hm)
