noncomputable def s_Mod_agrees_197 (v2 : Int32) (v3 : Int32) (v4 : Int32) (v5 : Int32) (v7 : Int32) (s0 : Int32) (h : Hp) : Option ((Int32 × Int32 × Int32 × Int32 × Int32 × Int32 × Hp) ⊕ ((Int32 × Int32 × Int32 × Int32 × Hp) ⊕ ((Int32 × Int32 × Int32 × Hp) ⊕ Hp))) :=
  some (.inl (v2, v3, v4, v5, s0, (v7 + (1 : Int32)), h))
noncomputable def s_Mod_agrees_192 (v2 : Int32) (v3 : Int32) (v4 : Int32) (v5 : Int32) (v7 : Int32) (h : Hp) : Option ((Int32 × Int32 × Int32 × Int32 × Int32 × Int32 × Hp) ⊕ ((Int32 × Int32 × Int32 × Int32 × Hp) ⊕ ((Int32 × Int32 × Int32 × Hp) ⊕ Hp))) :=
  s_Mod_agrees_197 v2 v3 v4 v5 v7 ((1 : Int32)) h
noncomputable def s_Mod_agrees_304 (v2 : Int32) (v3 : Int32) (v4 : Int32) (v5 : Int32) (h : Hp) : Option ((Int32 × Int32 × Int32 × Int32 × Hp) ⊕ ((Int32 × Int32 × Int32 × Hp) ⊕ Hp)) :=
  some (.inl (v2, v3, v4, (v5 + (10 : Int32)), h))
noncomputable def s_Mod_agrees_301 (v2 : Int32) (v3 : Int32) (v4 : Int32) (v5 : Int32) (s0 : Int32) (h : Hp) : Option ((Int32 × Int32 × Int32 × Int32 × Hp) ⊕ ((Int32 × Int32 × Int32 × Hp) ⊕ Hp)) :=
  s_Mod_agrees_304 v2 v3 v4 v5 (sI h 84 43 s0)
noncomputable def s_Mod_agrees_279 (v2 : Int32) (v3 : Int32) (v4 : Int32) (v5 : Int32) (s0 : Int32) (h : Hp) : Option ((Int32 × Int32 × Int32 × Int32 × Hp) ⊕ ((Int32 × Int32 × Int32 × Hp) ⊕ Hp)) :=
  lt (sI h 84 42 s0) fun h1 => if v5 ≤ (hI h1 84 43) then
    s_Mod_agrees_301 v2 v3 v4 v5 (hI h1 84 43) h1
  else
    s_Mod_agrees_301 v2 v3 v4 v5 v5 h1
noncomputable def s_Mod_agrees_244 (v2 : Int32) (v3 : Int32) (v4 : Int32) (v5 : Int32) (h : Hp) : Option ((Int32 × Int32 × Int32 × Int32 × Hp) ⊕ ((Int32 × Int32 × Int32 × Hp) ⊕ Hp)) :=
  lt (sI (sI h 84 39 ((hI h 84 39) + ((1 : Int32)))) 84 41 v4) fun h1 => if (hI h1 84 42) ≤ v5 then
    s_Mod_agrees_279 v2 v3 v4 v5 (hI h1 84 42) h1
  else
    s_Mod_agrees_279 v2 v3 v4 v5 v5 h1
noncomputable def s_Mod_agrees_205 (v2 : Int32) (v3 : Int32) (v4 : Int32) (v5 : Int32) (v6 : Int32) (h : Hp) : Option ((Int32 × Int32 × Int32 × Int32 × Hp) ⊕ ((Int32 × Int32 × Int32 × Hp) ⊕ Hp)) :=
  if v6 = 0 then
    s_Mod_agrees_304 v2 v3 v4 v5 h
  else
    if (hI h 84 39) = 0 then
      s_Mod_agrees_244 v2 v3 v4 v5 (sI (sI (sI (sI h 84 40 v4) 84 42 v5) 84 43 v5) 84 44 v5)
    else
      s_Mod_agrees_244 v2 v3 v4 v5 h
noncomputable def s_Mod_agrees_127 (v2 : Int32) (v3 : Int32) (v4 : Int32) (v5 : Int32) (v6 : Int32) (v7 : Int32) (h : Hp) : Option ((Int32 × Int32 × Int32 × Int32 × Int32 × Int32 × Hp) ⊕ ((Int32 × Int32 × Int32 × Int32 × Hp) ⊕ ((Int32 × Int32 × Int32 × Hp) ⊕ Hp))) :=
  ib ((188 : Int32)) 4998 <| if (hI h 86 (ix ((188 : Int32)))) ≤ v7 then
    inr (s_Mod_agrees_205 v2 v3 v4 v5 v6 h)
  else
    if v6 = 0 then
      inr (s_Mod_agrees_205 v2 v3 v4 v5 v6 h)
    else
      if v7 = v2 then
        s_Mod_agrees_192 v2 v3 v4 v5 v7 h
      else
        ib v7 12 <| ib (((161 : Int32)) + (((2 : Int32)) * v7)) 4998 <| (s_Mod_moonAt v4 v3 v5 (hI h 86 (ix (((161 : Int32)) + (((2 : Int32)) * v7)))) h).bind fun u1 => (s_Mod_size ((hI h 108 (ix v7)) - u1) h).bind fun u2 => (s_Mod_term ((8 : Int32)) h).bind fun u3 => if u3 < u2 then
          s_Mod_agrees_197 v2 v3 v4 v5 v7 ((0 : Int32)) h
        else
          s_Mod_agrees_192 v2 v3 v4 v5 v7 h
noncomputable def s_Mod_agrees_115 (v2 : Int32) (v3 : Int32) (v4 : Int32) (v5 : Int32) (h : Hp) : Option ((Int32 × Int32 × Int32 × Int32 × Hp) ⊕ ((Int32 × Int32 × Int32 × Hp) ⊕ Hp)) :=
  if v3 ≤ v5 then
    some (.inr (.inl (v2, v3, (v4 + (10 : Int32)), h)))
  else
    lp (fun q => s_Mod_agrees_127 q.1 q.2.1 q.2.2.1 q.2.2.2.1 q.2.2.2.2.1 q.2.2.2.2.2.1 q.2.2.2.2.2.2) (v2, v3, v4, v5, ((1 : Int32)), ((0 : Int32)), h)
noncomputable def s_Mod_agrees_104 (v2 : Int32) (v3 : Int32) (v4 : Int32) (h : Hp) : Option ((Int32 × Int32 × Int32 × Hp) ⊕ Hp) :=
  if ((500 : Int32)) < v4 then
    some (.inr h)
  else
    lp (fun q => s_Mod_agrees_115 q.1 q.2.1 q.2.2.1 q.2.2.2.1 q.2.2.2.2) (v2, v3, v4, ((0 : Int32)), h)
noncomputable def s_Mod_agrees_11 (v1 : Int32) (v2 : Int32) (v3 : Int32) (v4 : Int32) (h : Hp) : Option ((Int32 × Int32 × Int32 × Int32 × Hp) ⊕ Hp) :=
  ib ((188 : Int32)) 4998 <| if (hI h 86 (ix ((188 : Int32)))) ≤ v4 then
    inr (lp (fun q => s_Mod_agrees_104 q.1 q.2.1 q.2.2.1 q.2.2.2) (v2, v3, ((0 : Int32)), (sI h 84 39 ((0 : Int32)))))
  else
    ib (((161 : Int32)) + (((2 : Int32)) * v4)) 4998 <| lt (hI h 86 (ix (((161 : Int32)) + (((2 : Int32)) * v4)))) fun x1 => ib ((((161 : Int32)) + (((2 : Int32)) * v4)) + ((1 : Int32))) 4998 <| (s_Mod_level ((0 : Int32)) x1 h).bind fun u2 => (s_Mod_moonOf ((0 : Int32)) v1 ((0 : Int32)) h).bind fun u3 => (s_Mod_moonOf ((0 : Int32)) v1 ((2 : Int32)) h).bind fun u4 => (s_Mod_moonAt u3 v3 u4 x1 h).bind fun u5 => ib v4 12 <| some (.inl (v1, v2, v3, (v4 + (1 : Int32)), (sI h 108 (ix v4) (((hI h 86 (ix ((((161 : Int32)) + (((2 : Int32)) * v4)) + ((1 : Int32))))) - u2) + u5))))
noncomputable def s_Mod_agrees (v1 : Int32) (v2 : Int32) (h : Hp) : Option Hp :=
  (s_Mod_moonOf ((0 : Int32)) v1 ((1 : Int32)) h).bind fun u1 => lp (fun q => s_Mod_agrees_11 q.1 q.2.1 q.2.2.1 q.2.2.2.1 q.2.2.2.2) (v1, v2, u1, ((0 : Int32)), h)
def O_Mod_agrees (G : jG) (X : jX) (out : Hp) : Prop := jO G X (none) none out
def P_Mod_agrees_11 (G : jG) (X : jX) (q : Int32 × Int32 × Int32 × Int32 × Hp) : Prop := J G X 11 [(0, .ref (G.1 + 84)), (1, .int q.1), (2, .int q.2.1), (3, .int q.2.2.1), (4, .int q.2.2.2.1)] [] q.2.2.2.2
def O_Mod_agrees_11 (G : jG) (X : jX) (t : ((Int32 × Int32 × Int32 × Int32 × Hp) ⊕ Hp)) : Prop := Sum.elim (P_Mod_agrees_11 G X) (O_Mod_agrees G X) t
def P_Mod_agrees_104 (G : jG) (X : jX) (q : Int32 × Int32 × Int32 × Hp) : Prop := J G X 104 [(0, .ref (G.1 + 84)), (2, .int q.1), (3, .int q.2.1), (4, .int q.2.2.1)] [] q.2.2.2
def O_Mod_agrees_104 (G : jG) (X : jX) (t : ((Int32 × Int32 × Int32 × Hp) ⊕ Hp)) : Prop := Sum.elim (P_Mod_agrees_104 G X) (O_Mod_agrees G X) t
def P_Mod_agrees_115 (G : jG) (X : jX) (q : Int32 × Int32 × Int32 × Int32 × Hp) : Prop := J G X 115 [(0, .ref (G.1 + 84)), (2, .int q.1), (3, .int q.2.1), (4, .int q.2.2.1), (5, .int q.2.2.2.1)] [] q.2.2.2.2
def O_Mod_agrees_115 (G : jG) (X : jX) (t : ((Int32 × Int32 × Int32 × Int32 × Hp) ⊕ ((Int32 × Int32 × Int32 × Hp) ⊕ Hp))) : Prop := Sum.elim (P_Mod_agrees_115 G X) (O_Mod_agrees_104 G X) t
def P_Mod_agrees_127 (G : jG) (X : jX) (q : Int32 × Int32 × Int32 × Int32 × Int32 × Int32 × Hp) : Prop := J G X 127 [(0, .ref (G.1 + 84)), (2, .int q.1), (3, .int q.2.1), (4, .int q.2.2.1), (5, .int q.2.2.2.1), (6, .int q.2.2.2.2.1), (7, .int q.2.2.2.2.2.1)] [] q.2.2.2.2.2.2
def O_Mod_agrees_127 (G : jG) (X : jX) (t : ((Int32 × Int32 × Int32 × Int32 × Int32 × Int32 × Hp) ⊕ ((Int32 × Int32 × Int32 × Int32 × Hp) ⊕ ((Int32 × Int32 × Int32 × Hp) ⊕ Hp)))) : Prop := Sum.elim (P_Mod_agrees_127 G X) (O_Mod_agrees_115 G X) t
theorem w_Mod_agrees_197 {G : jG} {X : jX} (C : jC G X cX12_agrees 8 RX12 5 163) {v2 : Int32} {v3 : Int32} {v4 : Int32} {v5 : Int32} {v7 : Int32} {s0 : Int32} {h : Hp} {out : ((Int32 × Int32 × Int32 × Int32 × Int32 × Int32 × Hp) ⊕ ((Int32 × Int32 × Int32 × Int32 × Hp) ⊕ ((Int32 × Int32 × Int32 × Hp) ⊕ Hp)))} (O : (O_Mod_agrees_127 G X) out) (hm : s_Mod_agrees_197 v2 v3 v4 v5 v7 s0 h = some out) : J G X 197 [(0, .ref (G.1 + 84)), (2, .int v2), (3, .int v3), (4, .int v4), (5, .int v5), (7, .int v7)] [.int s0] h := by
  unfold s_Mod_agrees_197 at hm
  refine j_istore C [(6, .int s0), (0, .ref (G.1 + 84)), (2, .int v2), (3, .int v3), (4, .int v4), (5, .int v5), (7, .int v7)] dX12_agrees_197 (by decide) rfl ?_
  refine j_iinc C 6 [(7, .int (v7 + (1 : Int32))), (6, .int s0), (0, .ref (G.1 + 84)), (2, .int v2), (3, .int v3), (4, .int v4), (5, .int v5)] dX12_agrees_199 rfl (add_lit (by decide)) (by decide) rfl ?_
  refine j_goto C 127 dX12_agrees_202 (by decide) ?_
  obtain rfl := Option.some.inj hm
  refine j_sub (L' := [(0, .ref (G.1 + 84)), (2, .int v2), (3, .int v3), (4, .int v4), (5, .int v5), (6, .int s0), (7, .int (v7 + (1 : Int32)))]) [2, 3, 4, 5, 6, 1, 0] rfl ?_
  exact O
theorem w_Mod_agrees_192 {G : jG} {X : jX} (C : jC G X cX12_agrees 8 RX12 5 163) {v2 : Int32} {v3 : Int32} {v4 : Int32} {v5 : Int32} {v7 : Int32} {h : Hp} {out : ((Int32 × Int32 × Int32 × Int32 × Int32 × Int32 × Hp) ⊕ ((Int32 × Int32 × Int32 × Int32 × Hp) ⊕ ((Int32 × Int32 × Int32 × Hp) ⊕ Hp)))} (O : (O_Mod_agrees_127 G X) out) (hm : s_Mod_agrees_192 v2 v3 v4 v5 v7 h = some out) : J G X 192 [(0, .ref (G.1 + 84)), (2, .int v2), (3, .int v3), (4, .int v4), (5, .int v5), (7, .int v7)] [] h := by
  unfold s_Mod_agrees_192 at hm
  refine j_iconst C 1 dX12_agrees_192 (by decide) ?_
  refine j_goto C 197 dX12_agrees_193 (by decide) ?_
  refine j_sub (L' := [(0, .ref (G.1 + 84)), (2, .int v2), (3, .int v3), (4, .int v4), (5, .int v5), (7, .int v7)]) [0, 1, 2, 3, 4, 5] rfl ?_
  exact w_Mod_agrees_197 C O hm
theorem w_Mod_agrees_304 {G : jG} {X : jX} (C : jC G X cX12_agrees 8 RX12 5 163) {v2 : Int32} {v3 : Int32} {v4 : Int32} {v5 : Int32} {h : Hp} {out : ((Int32 × Int32 × Int32 × Int32 × Hp) ⊕ ((Int32 × Int32 × Int32 × Hp) ⊕ Hp))} (O : (O_Mod_agrees_115 G X) out) (hm : s_Mod_agrees_304 v2 v3 v4 v5 h = some out) : J G X 304 [(0, .ref (G.1 + 84)), (2, .int v2), (3, .int v3), (4, .int v4), (5, .int v5)] [] h := by
  unfold s_Mod_agrees_304 at hm
  refine j_iinc C 4 [(5, .int (v5 + (10 : Int32))), (0, .ref (G.1 + 84)), (2, .int v2), (3, .int v3), (4, .int v4)] dX12_agrees_304 rfl (add_lit (by decide)) (by decide) rfl ?_
  refine j_goto C 115 dX12_agrees_307 (by decide) ?_
  obtain rfl := Option.some.inj hm
  refine j_sub (L' := [(0, .ref (G.1 + 84)), (2, .int v2), (3, .int v3), (4, .int v4), (5, .int (v5 + (10 : Int32)))]) [1, 2, 3, 4, 0] rfl ?_
  exact O
theorem w_Mod_agrees_301 {G : jG} {X : jX} (C : jC G X cX12_agrees 8 RX12 5 163) {v2 : Int32} {v3 : Int32} {v4 : Int32} {v5 : Int32} {s0 : Int32} {h : Hp} {out : ((Int32 × Int32 × Int32 × Int32 × Hp) ⊕ ((Int32 × Int32 × Int32 × Hp) ⊕ Hp))} (O : (O_Mod_agrees_115 G X) out) (hm : s_Mod_agrees_301 v2 v3 v4 v5 s0 h = some out) : J G X 301 [(0, .ref (G.1 + 84)), (2, .int v2), (3, .int v3), (4, .int v4), (5, .int v5)] [.int s0, .ref (G.1 + 84)] h := by
  unfold s_Mod_agrees_301 at hm
  refine j_pI C f_X12_407 n_84 dX12_agrees_301 ?_
  refine j_sub (L' := [(0, .ref (G.1 + 84)), (2, .int v2), (3, .int v3), (4, .int v4), (5, .int v5)]) [0, 1, 2, 3, 4] rfl ?_
  exact w_Mod_agrees_304 C O hm
theorem w_Mod_agrees_279 {G : jG} {X : jX} (C : jC G X cX12_agrees 8 RX12 5 163) {v2 : Int32} {v3 : Int32} {v4 : Int32} {v5 : Int32} {s0 : Int32} {h : Hp} {out : ((Int32 × Int32 × Int32 × Int32 × Hp) ⊕ ((Int32 × Int32 × Int32 × Hp) ⊕ Hp))} (O : (O_Mod_agrees_115 G X) out) (hm : s_Mod_agrees_279 v2 v3 v4 v5 s0 h = some out) : J G X 279 [(0, .ref (G.1 + 84)), (2, .int v2), (3, .int v3), (4, .int v4), (5, .int v5)] [.int s0, .ref (G.1 + 84)] h := by
  unfold s_Mod_agrees_279 at hm
  refine j_pI C f_X12_404 n_84 dX12_agrees_279 ?_
  refine j_aload_n C 0 dX12_agrees_282 rfl rfl ?_
  refine j_iload C 4 dX12_agrees_283 rfl ?_
  refine j_aload_n C 0 dX12_agrees_285 rfl rfl ?_
  refine j_nmH hm (fun h1 hm => ?_)
  refine j_gI C f_X12_407 n_84 dX12_agrees_286 ?_
  refine j_if_icmple C 297 dX12_agrees_289 (by decide) hm (fun hm => ?_) (fun hm => ?_)
  · refine j_aload_n C 0 dX12_agrees_297 rfl rfl ?_
    refine j_gI C f_X12_407 n_84 dX12_agrees_298 ?_
    refine j_sub (L' := [(0, .ref (G.1 + 84)), (2, .int v2), (3, .int v3), (4, .int v4), (5, .int v5)]) [0, 1, 2, 3, 4] rfl ?_
    exact w_Mod_agrees_301 C O hm
  · refine j_iload C 4 dX12_agrees_292 rfl ?_
    refine j_goto C 301 dX12_agrees_294 (by decide) ?_
    refine j_sub (L' := [(0, .ref (G.1 + 84)), (2, .int v2), (3, .int v3), (4, .int v4), (5, .int v5)]) [0, 1, 2, 3, 4] rfl ?_
    exact w_Mod_agrees_301 C O hm
theorem w_Mod_agrees_244 {G : jG} {X : jX} (C : jC G X cX12_agrees 8 RX12 5 163) {v2 : Int32} {v3 : Int32} {v4 : Int32} {v5 : Int32} {h : Hp} {out : ((Int32 × Int32 × Int32 × Int32 × Hp) ⊕ ((Int32 × Int32 × Int32 × Hp) ⊕ Hp))} (O : (O_Mod_agrees_115 G X) out) (hm : s_Mod_agrees_244 v2 v3 v4 v5 h = some out) : J G X 244 [(0, .ref (G.1 + 84)), (2, .int v2), (3, .int v3), (4, .int v4), (5, .int v5)] [] h := by
  unfold s_Mod_agrees_244 at hm
  refine j_aload_n C 0 dX12_agrees_244 rfl rfl ?_
  refine j_dup C dX12_agrees_245 rfl ?_
  refine j_gI C f_X12_398 n_84 dX12_agrees_246 ?_
  refine j_iconst C 1 dX12_agrees_249 (by decide) ?_
  refine j_iadd C dX12_agrees_250 ?_
  refine j_pI C f_X12_398 n_84 dX12_agrees_251 ?_
  refine j_aload_n C 0 dX12_agrees_254 rfl rfl ?_
  refine j_iload C 3 dX12_agrees_255 rfl ?_
  refine j_pI C f_X12_413 n_84 dX12_agrees_257 ?_
  refine j_aload_n C 0 dX12_agrees_260 rfl rfl ?_
  refine j_iload C 4 dX12_agrees_261 rfl ?_
  refine j_aload_n C 0 dX12_agrees_263 rfl rfl ?_
  refine j_nmH hm (fun h1 hm => ?_)
  refine j_gI C f_X12_404 n_84 dX12_agrees_264 ?_
  refine j_if_icmpge C 275 dX12_agrees_267 (by decide) hm (fun hm => ?_) (fun hm => ?_)
  · refine j_aload_n C 0 dX12_agrees_275 rfl rfl ?_
    refine j_gI C f_X12_404 n_84 dX12_agrees_276 ?_
    refine j_sub (L' := [(0, .ref (G.1 + 84)), (2, .int v2), (3, .int v3), (4, .int v4), (5, .int v5)]) [0, 1, 2, 3, 4] rfl ?_
    exact w_Mod_agrees_279 C O hm
  · refine j_iload C 4 dX12_agrees_270 rfl ?_
    refine j_goto C 279 dX12_agrees_272 (by decide) ?_
    refine j_sub (L' := [(0, .ref (G.1 + 84)), (2, .int v2), (3, .int v3), (4, .int v4), (5, .int v5)]) [0, 1, 2, 3, 4] rfl ?_
    exact w_Mod_agrees_279 C O hm
theorem w_Mod_agrees_205 {G : jG} {X : jX} (C : jC G X cX12_agrees 8 RX12 5 163) {v2 : Int32} {v3 : Int32} {v4 : Int32} {v5 : Int32} {v6 : Int32} {h : Hp} {out : ((Int32 × Int32 × Int32 × Int32 × Hp) ⊕ ((Int32 × Int32 × Int32 × Hp) ⊕ Hp))} (O : (O_Mod_agrees_115 G X) out) (hm : s_Mod_agrees_205 v2 v3 v4 v5 v6 h = some out) : J G X 205 [(0, .ref (G.1 + 84)), (2, .int v2), (3, .int v3), (4, .int v4), (5, .int v5), (6, .int v6)] [] h := by
  unfold s_Mod_agrees_205 at hm
  refine j_iload C 5 dX12_agrees_205 rfl ?_
  refine j_ifne C 213 dX12_agrees_207 (by decide) hm (fun hm => ?_) (fun hm => ?_)
  · refine j_goto C 304 dX12_agrees_210 (by decide) ?_
    refine j_sub (L' := [(0, .ref (G.1 + 84)), (2, .int v2), (3, .int v3), (4, .int v4), (5, .int v5)]) [0, 1, 2, 3, 4] rfl ?_
    exact w_Mod_agrees_304 C O hm
  · refine j_aload_n C 0 dX12_agrees_213 rfl rfl ?_
    refine j_gI C f_X12_398 n_84 dX12_agrees_214 ?_
    refine j_ifne C 244 dX12_agrees_217 (by decide) hm (fun hm => ?_) (fun hm => ?_)
    · refine j_aload_n C 0 dX12_agrees_220 rfl rfl ?_
      refine j_iload C 3 dX12_agrees_221 rfl ?_
      refine j_pI C f_X12_401 n_84 dX12_agrees_223 ?_
      refine j_aload_n C 0 dX12_agrees_226 rfl rfl ?_
      refine j_iload C 4 dX12_agrees_227 rfl ?_
      refine j_pI C f_X12_404 n_84 dX12_agrees_229 ?_
      refine j_aload_n C 0 dX12_agrees_232 rfl rfl ?_
      refine j_iload C 4 dX12_agrees_233 rfl ?_
      refine j_pI C f_X12_407 n_84 dX12_agrees_235 ?_
      refine j_aload_n C 0 dX12_agrees_238 rfl rfl ?_
      refine j_iload C 4 dX12_agrees_239 rfl ?_
      refine j_pI C f_X12_410 n_84 dX12_agrees_241 ?_
      refine j_sub (L' := [(0, .ref (G.1 + 84)), (2, .int v2), (3, .int v3), (4, .int v4), (5, .int v5)]) [0, 1, 2, 3, 4] rfl ?_
      exact w_Mod_agrees_244 C O hm
    · refine j_sub (L' := [(0, .ref (G.1 + 84)), (2, .int v2), (3, .int v3), (4, .int v4), (5, .int v5)]) [0, 1, 2, 3, 4] rfl ?_
      exact w_Mod_agrees_244 C O hm
theorem w_Mod_agrees_127 {G : jG} {X : jX} (C : jC G X cX12_agrees 8 RX12 5 163) {v2 : Int32} {v3 : Int32} {v4 : Int32} {v5 : Int32} {v6 : Int32} {v7 : Int32} {h : Hp} {out : ((Int32 × Int32 × Int32 × Int32 × Int32 × Int32 × Hp) ⊕ ((Int32 × Int32 × Int32 × Int32 × Hp) ⊕ ((Int32 × Int32 × Int32 × Hp) ⊕ Hp)))} (O : (O_Mod_agrees_127 G X) out) (hm : s_Mod_agrees_127 v2 v3 v4 v5 v6 v7 h = some out) : J G X 127 [(0, .ref (G.1 + 84)), (2, .int v2), (3, .int v3), (4, .int v4), (5, .int v5), (6, .int v6), (7, .int v7)] [] h := by
  unfold s_Mod_agrees_127 at hm
  refine j_iload C 6 dX12_agrees_127 rfl ?_
  refine j_aload_n C 0 dX12_agrees_129 rfl rfl ?_
  refine j_gS C f_X12_20 n_84 q_84_3 dX12_agrees_130 ?_
  refine j_sipush C 188 dX12_agrees_133 (by decide) ?_
  refine j_iald C n_86 hm dX12_agrees_136 (fun hm => ?_)
  refine j_if_icmpge C 205 dX12_agrees_137 (by decide) hm (fun hm => ?_) (fun hm => ?_)
  · obtain ⟨o_0, hm_0, rfl⟩ := inr_inv hm
    refine j_sub (L' := [(0, .ref (G.1 + 84)), (2, .int v2), (3, .int v3), (4, .int v4), (5, .int v5), (6, .int v6)]) [0, 1, 2, 3, 4, 5] rfl ?_
    exact w_Mod_agrees_205 C O hm_0
  · refine j_iload C 5 dX12_agrees_140 rfl ?_
    refine j_ifeq C 205 dX12_agrees_142 (by decide) hm (fun hm => ?_) (fun hm => ?_)
    · obtain ⟨o_0, hm_0, rfl⟩ := inr_inv hm
      refine j_sub (L' := [(0, .ref (G.1 + 84)), (2, .int v2), (3, .int v3), (4, .int v4), (5, .int v5), (6, .int v6)]) [0, 1, 2, 3, 4, 5] rfl ?_
      exact w_Mod_agrees_205 C O hm_0
    · refine j_iload C 6 dX12_agrees_145 rfl ?_
      refine j_iload_n C 1 dX12_agrees_147 rfl rfl ?_
      refine j_if_icmpeq C 192 dX12_agrees_148 (by decide) hm (fun hm => ?_) (fun hm => ?_)
      · refine j_sub (L' := [(0, .ref (G.1 + 84)), (2, .int v2), (3, .int v3), (4, .int v4), (5, .int v5), (7, .int v7)]) [0, 1, 2, 3, 4, 6] rfl ?_
        exact w_Mod_agrees_192 C O hm
      · refine j_aload_n C 0 dX12_agrees_151 rfl rfl ?_
        refine j_gS C f_X12_94 n_84 q_84_45 dX12_agrees_152 ?_
        refine j_iload C 6 dX12_agrees_155 rfl ?_
        refine j_iald C n_108 hm dX12_agrees_157 (fun hm => ?_)
        refine j_iload C 3 dX12_agrees_158 rfl ?_
        refine j_iload_n C 2 dX12_agrees_160 rfl rfl ?_
        refine j_iload C 4 dX12_agrees_161 rfl ?_
        refine j_aload_n C 0 dX12_agrees_163 rfl rfl ?_
        refine j_gS C f_X12_20 n_84 q_84_3 dX12_agrees_164 ?_
        refine j_sipush C 161 dX12_agrees_167 (by decide) ?_
        refine j_iconst C 2 dX12_agrees_170 (by decide) ?_
        refine j_iload C 6 dX12_agrees_171 rfl ?_
        refine j_imul C dX12_agrees_173 ?_
        refine j_iadd C dX12_agrees_174 ?_
        refine j_iald C n_86 hm dX12_agrees_175 (fun hm => ?_)
        refine j_cS C l_X12_276 [.int v4, .int v3, .int v5, .int (hI h 86 (ix (((161 : Int32)) + (((2 : Int32)) * v7))))] [.int (hI h 108 (ix v7))] (fun u1 => some (.int u1)) (fun _ => h) (fun u1 => [.int u1, .int (hI h 108 (ix v7))]) hm (fun l u hu => c_Mod_moonAt hu) rfl (Nat.le_of_ble_eq_true rfl) rfl (Nat.le_of_ble_eq_true rfl) (Nat.le_of_ble_eq_true rfl) (fun _ => rfl) dX12_agrees_176 (fun u1 hm => ?_)
        refine j_isub C dX12_agrees_179 ?_
        refine j_cS C l_X12_304 [.int ((hI h 108 (ix v7)) - u1)] [] (fun u2 => some (.int u2)) (fun _ => h) (fun u2 => [.int u2]) hm (fun l u hu => c_Mod_size hu) rfl (Nat.le_of_ble_eq_true rfl) rfl (Nat.le_of_ble_eq_true rfl) (Nat.le_of_ble_eq_true rfl) (fun _ => rfl) dX12_agrees_180 (fun u2 hm => ?_)
        refine j_aload_n C 0 dX12_agrees_183 rfl rfl ?_
        refine j_bipush C 8 dX12_agrees_184 (by decide) ?_
        refine j_cV C l_X12_283 [.int ((8 : Int32))] [.int u2] (fun u3 => some (.int u3)) (fun _ => h) (fun u3 => [.int u3, .int u2]) n_84 hm (fun l u hu => c_Mod_term hu) rfl (Nat.le_of_ble_eq_true rfl) rfl (Nat.le_of_ble_eq_true rfl) (Nat.le_of_ble_eq_true rfl) (fun _ => rfl) dX12_agrees_186 (fun u3 hm => ?_)
        refine j_if_icmpgt C 196 dX12_agrees_189 (by decide) hm (fun hm => ?_) (fun hm => ?_)
        · refine j_iconst C 0 dX12_agrees_196 (by decide) ?_
          refine j_sub (L' := [(0, .ref (G.1 + 84)), (2, .int v2), (3, .int v3), (4, .int v4), (5, .int v5), (7, .int v7)]) [0, 1, 2, 3, 4, 6] rfl ?_
          exact w_Mod_agrees_197 C O hm
        · refine j_sub (L' := [(0, .ref (G.1 + 84)), (2, .int v2), (3, .int v3), (4, .int v4), (5, .int v5), (7, .int v7)]) [0, 1, 2, 3, 4, 6] rfl ?_
          exact w_Mod_agrees_192 C O hm
theorem k_Mod_agrees_127 {G : jG} {X : jX} (C : jC G X cX12_agrees 8 RX12 5 163) {v2 : Int32} {v3 : Int32} {v4 : Int32} {v5 : Int32} {v6 : Int32} {v7 : Int32} {h : Hp} {out : ((Int32 × Int32 × Int32 × Int32 × Hp) ⊕ ((Int32 × Int32 × Int32 × Hp) ⊕ Hp))} (O : (O_Mod_agrees_115 G X) out) (hm : lp (fun q => s_Mod_agrees_127 q.1 q.2.1 q.2.2.1 q.2.2.2.1 q.2.2.2.2.1 q.2.2.2.2.2.1 q.2.2.2.2.2.2) (v2, v3, v4, v5, v6, v7, h) = some out) : J G X 127 [(0, .ref (G.1 + 84)), (2, .int v2), (3, .int v3), (4, .int v4), (5, .int v5), (6, .int v6), (7, .int v7)] [] h :=
  lp_ok (P := P_Mod_agrees_127 G X) (O := (O_Mod_agrees_115 G X)) (fun q r hm O => w_Mod_agrees_127 C O hm) hm O
theorem w_Mod_agrees_115 {G : jG} {X : jX} (C : jC G X cX12_agrees 8 RX12 5 163) {v2 : Int32} {v3 : Int32} {v4 : Int32} {v5 : Int32} {h : Hp} {out : ((Int32 × Int32 × Int32 × Int32 × Hp) ⊕ ((Int32 × Int32 × Int32 × Hp) ⊕ Hp))} (O : (O_Mod_agrees_115 G X) out) (hm : s_Mod_agrees_115 v2 v3 v4 v5 h = some out) : J G X 115 [(0, .ref (G.1 + 84)), (2, .int v2), (3, .int v3), (4, .int v4), (5, .int v5)] [] h := by
  unfold s_Mod_agrees_115 at hm
  refine j_iload C 4 dX12_agrees_115 rfl ?_
  refine j_iload_n C 2 dX12_agrees_117 rfl rfl ?_
  refine j_if_icmpge C 310 dX12_agrees_118 (by decide) hm (fun hm => ?_) (fun hm => ?_)
  · refine j_iinc C 3 [(4, .int (v4 + (10 : Int32))), (0, .ref (G.1 + 84)), (2, .int v2), (3, .int v3), (5, .int v5)] dX12_agrees_310 rfl (add_lit (by decide)) (by decide) rfl ?_
    refine j_goto C 104 dX12_agrees_313 (by decide) ?_
    obtain rfl := Option.some.inj hm
    refine j_sub (L' := [(0, .ref (G.1 + 84)), (2, .int v2), (3, .int v3), (4, .int (v4 + (10 : Int32)))]) [1, 2, 3, 0] rfl ?_
    exact O
  · refine j_iconst C 1 dX12_agrees_121 (by decide) ?_
    refine j_istore C [(6, .int ((1 : Int32))), (0, .ref (G.1 + 84)), (2, .int v2), (3, .int v3), (4, .int v4), (5, .int v5)] dX12_agrees_122 (by decide) rfl ?_
    refine j_iconst C 0 dX12_agrees_124 (by decide) ?_
    refine j_istore C [(7, .int ((0 : Int32))), (6, .int ((1 : Int32))), (0, .ref (G.1 + 84)), (2, .int v2), (3, .int v3), (4, .int v4), (5, .int v5)] dX12_agrees_125 (by decide) rfl ?_
    refine j_sub (L' := [(0, .ref (G.1 + 84)), (2, .int v2), (3, .int v3), (4, .int v4), (5, .int v5), (6, .int ((1 : Int32))), (7, .int ((0 : Int32)))]) [2, 3, 4, 5, 6, 1, 0] rfl ?_
    exact k_Mod_agrees_127 C O hm
theorem k_Mod_agrees_115 {G : jG} {X : jX} (C : jC G X cX12_agrees 8 RX12 5 163) {v2 : Int32} {v3 : Int32} {v4 : Int32} {v5 : Int32} {h : Hp} {out : ((Int32 × Int32 × Int32 × Hp) ⊕ Hp)} (O : (O_Mod_agrees_104 G X) out) (hm : lp (fun q => s_Mod_agrees_115 q.1 q.2.1 q.2.2.1 q.2.2.2.1 q.2.2.2.2) (v2, v3, v4, v5, h) = some out) : J G X 115 [(0, .ref (G.1 + 84)), (2, .int v2), (3, .int v3), (4, .int v4), (5, .int v5)] [] h :=
  lp_ok (P := P_Mod_agrees_115 G X) (O := (O_Mod_agrees_104 G X)) (fun q r hm O => w_Mod_agrees_115 C O hm) hm O
theorem w_Mod_agrees_104 {G : jG} {X : jX} (C : jC G X cX12_agrees 8 RX12 5 163) {v2 : Int32} {v3 : Int32} {v4 : Int32} {h : Hp} {out : ((Int32 × Int32 × Int32 × Hp) ⊕ Hp)} (O : (O_Mod_agrees_104 G X) out) (hm : s_Mod_agrees_104 v2 v3 v4 h = some out) : J G X 104 [(0, .ref (G.1 + 84)), (2, .int v2), (3, .int v3), (4, .int v4)] [] h := by
  unfold s_Mod_agrees_104 at hm
  refine j_iload C 3 dX12_agrees_104 rfl ?_
  refine j_sipush C 500 dX12_agrees_106 (by decide) ?_
  refine j_if_icmpgt C 316 dX12_agrees_109 (by decide) hm (fun hm => ?_) (fun hm => ?_)
  · obtain rfl := Option.some.inj hm
    exact j_vret C O dX12_agrees_316
  · refine j_iconst C 0 dX12_agrees_112 (by decide) ?_
    refine j_istore C [(5, .int ((0 : Int32))), (0, .ref (G.1 + 84)), (2, .int v2), (3, .int v3), (4, .int v4)] dX12_agrees_113 (by decide) rfl ?_
    refine j_sub (L' := [(0, .ref (G.1 + 84)), (2, .int v2), (3, .int v3), (4, .int v4), (5, .int ((0 : Int32)))]) [1, 2, 3, 4, 0] rfl ?_
    exact k_Mod_agrees_115 C O hm
theorem k_Mod_agrees_104 {G : jG} {X : jX} (C : jC G X cX12_agrees 8 RX12 5 163) {v2 : Int32} {v3 : Int32} {v4 : Int32} {h : Hp} {out : Hp} (O : (O_Mod_agrees G X) out) (hm : lp (fun q => s_Mod_agrees_104 q.1 q.2.1 q.2.2.1 q.2.2.2) (v2, v3, v4, h) = some out) : J G X 104 [(0, .ref (G.1 + 84)), (2, .int v2), (3, .int v3), (4, .int v4)] [] h :=
  lp_ok (P := P_Mod_agrees_104 G X) (O := (O_Mod_agrees G X)) (fun q r hm O => w_Mod_agrees_104 C O hm) hm O
theorem w_Mod_agrees_11 {G : jG} {X : jX} (C : jC G X cX12_agrees 8 RX12 5 163) {v1 : Int32} {v2 : Int32} {v3 : Int32} {v4 : Int32} {h : Hp} {out : ((Int32 × Int32 × Int32 × Int32 × Hp) ⊕ Hp)} (O : (O_Mod_agrees_11 G X) out) (hm : s_Mod_agrees_11 v1 v2 v3 v4 h = some out) : J G X 11 [(0, .ref (G.1 + 84)), (1, .int v1), (2, .int v2), (3, .int v3), (4, .int v4)] [] h := by
  unfold s_Mod_agrees_11 at hm
  refine j_iload C 4 dX12_agrees_11 rfl ?_
  refine j_aload_n C 0 dX12_agrees_13 rfl rfl ?_
  refine j_gS C f_X12_20 n_84 q_84_3 dX12_agrees_14 ?_
  refine j_sipush C 188 dX12_agrees_17 (by decide) ?_
  refine j_iald C n_86 hm dX12_agrees_20 (fun hm => ?_)
  refine j_if_icmpge C 96 dX12_agrees_21 (by decide) hm (fun hm => ?_) (fun hm => ?_)
  · refine j_aload_n C 0 dX12_agrees_96 rfl rfl ?_
    refine j_iconst C 0 dX12_agrees_97 (by decide) ?_
    refine j_pI C f_X12_398 n_84 dX12_agrees_98 ?_
    refine j_iconst C 0 dX12_agrees_101 (by decide) ?_
    refine j_istore C [(4, .int ((0 : Int32))), (0, .ref (G.1 + 84)), (1, .int v1), (2, .int v2), (3, .int v3)] dX12_agrees_102 (by decide) rfl ?_
    obtain ⟨o_0, hm_0, rfl⟩ := inr_inv hm
    refine j_sub (L' := [(0, .ref (G.1 + 84)), (2, .int v2), (3, .int v3), (4, .int ((0 : Int32)))]) [1, 3, 4, 0] rfl ?_
    exact k_Mod_agrees_104 C O hm_0
  · refine j_aload_n C 0 dX12_agrees_24 rfl rfl ?_
    refine j_gS C f_X12_20 n_84 q_84_3 dX12_agrees_25 ?_
    refine j_sipush C 161 dX12_agrees_28 (by decide) ?_
    refine j_iconst C 2 dX12_agrees_31 (by decide) ?_
    refine j_iload C 4 dX12_agrees_32 rfl ?_
    refine j_imul C dX12_agrees_34 ?_
    refine j_iadd C dX12_agrees_35 ?_
    refine j_iald C n_86 hm dX12_agrees_36 (fun hm => ?_)
    refine j_nmI hm (fun x1 hm => ?_)
    refine j_istore C [(5, .int x1), (0, .ref (G.1 + 84)), (1, .int v1), (2, .int v2), (3, .int v3), (4, .int v4)] dX12_agrees_37 (by decide) rfl ?_
    refine j_aload_n C 1 dX12_agrees_39 rfl rfl ?_
    refine j_gS C f_X12_94 n_84 q_84_45 dX12_agrees_40 ?_
    refine j_iload C 5 dX12_agrees_43 rfl ?_
    refine j_aload_n C 1 dX12_agrees_45 rfl rfl ?_
    refine j_gS C f_X12_20 n_84 q_84_3 dX12_agrees_46 ?_
    refine j_sipush C 161 dX12_agrees_49 (by decide) ?_
    refine j_iconst C 2 dX12_agrees_52 (by decide) ?_
    refine j_iload C 5 dX12_agrees_53 rfl ?_
    refine j_imul C dX12_agrees_55 ?_
    refine j_iadd C dX12_agrees_56 ?_
    refine j_iconst C 1 dX12_agrees_57 (by decide) ?_
    refine j_iadd C dX12_agrees_58 ?_
    refine j_iald C n_86 hm dX12_agrees_59 (fun hm => ?_)
    refine j_aload_n C 1 dX12_agrees_60 rfl rfl ?_
    refine j_iconst C 0 dX12_agrees_61 (by decide) ?_
    refine j_iload C 0 dX12_agrees_62 rfl ?_
    refine j_cV C l_X12_331 [.int ((0 : Int32)), .int x1] [.int (hI h 86 (ix ((((161 : Int32)) + (((2 : Int32)) * v4)) + ((1 : Int32))))), .int v4, .ref (G.1 + 108)] (fun u2 => some (.int u2)) (fun _ => h) (fun u2 => [.int u2, .int (hI h 86 (ix ((((161 : Int32)) + (((2 : Int32)) * v4)) + ((1 : Int32))))), .int v4, .ref (G.1 + 108)]) n_84 hm (fun l u hu => c_Mod_level hu) rfl (Nat.le_of_ble_eq_true rfl) rfl (Nat.le_of_ble_eq_true rfl) (Nat.le_of_ble_eq_true rfl) (fun _ => rfl) dX12_agrees_64 (fun u2 hm => ?_)
    refine j_isub C dX12_agrees_67 ?_
    refine j_aload_n C 1 dX12_agrees_68 rfl rfl ?_
    refine j_iconst C 0 dX12_agrees_69 (by decide) ?_
    refine j_iload_n C 2 dX12_agrees_70 rfl rfl ?_
    refine j_iconst C 0 dX12_agrees_71 (by decide) ?_
    refine j_cV C l_X12_272 [.int ((0 : Int32)), .int v1, .int ((0 : Int32))] [.int ((hI h 86 (ix ((((161 : Int32)) + (((2 : Int32)) * v4)) + ((1 : Int32))))) - u2), .int v4, .ref (G.1 + 108)] (fun u3 => some (.int u3)) (fun _ => h) (fun u3 => [.int u3, .int ((hI h 86 (ix ((((161 : Int32)) + (((2 : Int32)) * v4)) + ((1 : Int32))))) - u2), .int v4, .ref (G.1 + 108)]) n_84 hm (fun l u hu => c_Mod_moonOf hu) rfl (Nat.le_of_ble_eq_true rfl) rfl (Nat.le_of_ble_eq_true rfl) (Nat.le_of_ble_eq_true rfl) (fun _ => rfl) dX12_agrees_72 (fun u3 hm => ?_)
    refine j_iload_n C 4 dX12_agrees_75 rfl rfl ?_
    refine j_aload_n C 1 dX12_agrees_76 rfl rfl ?_
    refine j_iconst C 0 dX12_agrees_77 (by decide) ?_
    refine j_iload_n C 2 dX12_agrees_78 rfl rfl ?_
    refine j_iconst C 2 dX12_agrees_79 (by decide) ?_
    refine j_cV C l_X12_272 [.int ((0 : Int32)), .int v1, .int ((2 : Int32))] [.int v3, .int u3, .int ((hI h 86 (ix ((((161 : Int32)) + (((2 : Int32)) * v4)) + ((1 : Int32))))) - u2), .int v4, .ref (G.1 + 108)] (fun u4 => some (.int u4)) (fun _ => h) (fun u4 => [.int u4, .int v3, .int u3, .int ((hI h 86 (ix ((((161 : Int32)) + (((2 : Int32)) * v4)) + ((1 : Int32))))) - u2), .int v4, .ref (G.1 + 108)]) n_84 hm (fun l u hu => c_Mod_moonOf hu) rfl (Nat.le_of_ble_eq_true rfl) rfl (Nat.le_of_ble_eq_true rfl) (Nat.le_of_ble_eq_true rfl) (fun _ => rfl) dX12_agrees_80 (fun u4 hm => ?_)
    refine j_iload C 0 dX12_agrees_83 rfl ?_
    refine j_cS C l_X12_276 [.int u3, .int v3, .int u4, .int x1] [.int ((hI h 86 (ix ((((161 : Int32)) + (((2 : Int32)) * v4)) + ((1 : Int32))))) - u2), .int v4, .ref (G.1 + 108)] (fun u5 => some (.int u5)) (fun _ => h) (fun u5 => [.int u5, .int ((hI h 86 (ix ((((161 : Int32)) + (((2 : Int32)) * v4)) + ((1 : Int32))))) - u2), .int v4, .ref (G.1 + 108)]) hm (fun l u hu => c_Mod_moonAt hu) rfl (Nat.le_of_ble_eq_true rfl) rfl (Nat.le_of_ble_eq_true rfl) (Nat.le_of_ble_eq_true rfl) (fun _ => rfl) dX12_agrees_85 (fun u5 hm => ?_)
    refine j_iadd C dX12_agrees_88 ?_
    refine j_iast C n_108 hm dX12_agrees_89 (fun hm => ?_)
    refine j_iinc C 5 [(4, .int (v4 + (1 : Int32))), (5, .int x1), (0, .ref (G.1 + 84)), (1, .int v1), (2, .int v2), (3, .int v3)] dX12_agrees_90 rfl (add_lit (by decide)) (by decide) rfl ?_
    refine j_goto C 11 dX12_agrees_93 (by decide) ?_
    obtain rfl := Option.some.inj hm
    refine j_sub (L' := [(0, .ref (G.1 + 84)), (1, .int v1), (2, .int v2), (3, .int v3), (4, .int (v4 + (1 : Int32)))]) [2, 3, 4, 5, 0] rfl ?_
    exact O
theorem k_Mod_agrees_11 {G : jG} {X : jX} (C : jC G X cX12_agrees 8 RX12 5 163) {v1 : Int32} {v2 : Int32} {v3 : Int32} {v4 : Int32} {h : Hp} {out : Hp} (O : (O_Mod_agrees G X) out) (hm : lp (fun q => s_Mod_agrees_11 q.1 q.2.1 q.2.2.1 q.2.2.2.1 q.2.2.2.2) (v1, v2, v3, v4, h) = some out) : J G X 11 [(0, .ref (G.1 + 84)), (1, .int v1), (2, .int v2), (3, .int v3), (4, .int v4)] [] h :=
  lp_ok (P := P_Mod_agrees_11 G X) (O := (O_Mod_agrees G X)) (fun q r hm O => w_Mod_agrees_11 C O hm) hm O
theorem w_Mod_agrees {G : jG} {X : jX} (C : jC G X cX12_agrees 8 RX12 5 163) {v1 : Int32} {v2 : Int32} {h : Hp} {out : Hp} (O : (O_Mod_agrees G X) out) (hm : s_Mod_agrees v1 v2 h = some out) : J G X 0 [(0, .ref (G.1 + 84)), (1, .int v1), (2, .int v2)] [] h := by
  unfold s_Mod_agrees at hm
  refine j_aload_n C 0 dX12_agrees_0 rfl rfl ?_
  refine j_iconst C 0 dX12_agrees_1 (by decide) ?_
  refine j_iload_n C 1 dX12_agrees_2 rfl rfl ?_
  refine j_iconst C 1 dX12_agrees_3 (by decide) ?_
  refine j_cV C l_X12_272 [.int ((0 : Int32)), .int v1, .int ((1 : Int32))] [] (fun u1 => some (.int u1)) (fun _ => h) (fun u1 => [.int u1]) n_84 hm (fun l u hu => c_Mod_moonOf hu) rfl (Nat.le_of_ble_eq_true rfl) rfl (Nat.le_of_ble_eq_true rfl) (Nat.le_of_ble_eq_true rfl) (fun _ => rfl) dX12_agrees_4 (fun u1 hm => ?_)
  refine j_istore_n C [(3, .int u1), (0, .ref (G.1 + 84)), (1, .int v1), (2, .int v2)] dX12_agrees_7 rfl (by decide) rfl ?_
  refine j_iconst C 0 dX12_agrees_8 (by decide) ?_
  refine j_istore C [(4, .int ((0 : Int32))), (3, .int u1), (0, .ref (G.1 + 84)), (1, .int v1), (2, .int v2)] dX12_agrees_9 (by decide) rfl ?_
  refine j_sub (L' := [(0, .ref (G.1 + 84)), (1, .int v1), (2, .int v2), (3, .int u1), (4, .int ((0 : Int32)))]) [2, 3, 4, 1, 0] rfl ?_
  exact k_Mod_agrees_11 C O hm
theorem c_Mod_agrees {G : jG} {l : Launch} {v1 : Int32} {v2 : Int32} {h : Hp} {out : Hp} (hm : s_Mod_agrees v1 v2 h = some out) : mt G l yX12_agrees cX12_agrees 8 (none) 5 163 [.ref (G.1 + 84), .int v1, .int v2] h none out :=
  mt_of (by decide) (Nat.le_of_ble_eq_true rfl) _ rfl (fun X I C O => w_Mod_agrees C O hm)
noncomputable def s_Mod_isMoon (v0 : Int32) (h : Hp) : Option Int32 :=
  (s_Mod_lies v0 ((0 : Int32)) ((3 : Int32)) h).bind fun u1 => bz u1 <| some (u1)
def O_Mod_isMoon (G : jG) (X : jX) (h : Hp) (out : Int32) : Prop := jO G X (some .boolean) (some (.int out)) h
theorem w_Mod_isMoon {G : jG} {X : jX} (C : jC G X cX12_isMoon 1 RX12 2 92) {v0 : Int32} {h : Hp} {out : Int32} (O : (O_Mod_isMoon G X h) out) (hm : s_Mod_isMoon v0 h = some out) : J G X 0 [(0, .int v0)] [] h := by
  unfold s_Mod_isMoon at hm
  refine j_iload_n C 0 dX12_isMoon_0 rfl rfl ?_
  refine j_iconst C 0 dX12_isMoon_1 (by decide) ?_
  refine j_iconst C 3 dX12_isMoon_2 (by decide) ?_
  refine j_cS C l_X12_113 [.int v0, .int ((0 : Int32)), .int ((3 : Int32))] [] (fun u1 => some (.int u1)) (fun _ => h) (fun u1 => [.int u1]) hm (fun l u hu => c_Mod_lies hu) rfl (Nat.le_of_ble_eq_true rfl) rfl (Nat.le_of_ble_eq_true rfl) (Nat.le_of_ble_eq_true rfl) (fun _ => rfl) dX12_isMoon_3 (fun u1 hm => ?_)
  obtain ⟨cz, hm⟩ := bz_inv hm
  obtain rfl := Option.some.inj hm
  exact j_zret C O cz dX12_isMoon_6
theorem c_Mod_isMoon {G : jG} {l : Launch} {v0 : Int32} {h : Hp} {out : Int32} (hm : s_Mod_isMoon v0 h = some out) : mt G l yX12_isMoon cX12_isMoon 1 (some .boolean) 2 92 [.int v0] h (some (.int out)) h :=
  mt_of (by decide) (Nat.le_of_ble_eq_true rfl) _ rfl (fun X I C O => w_Mod_isMoon C O hm)
noncomputable def s_Mod_agree_16 (h : Hp) : Option (Int32 × Hp) :=
  some ((-1 : Int32), h)
noncomputable def s_Mod_agree_94 (s0 : Int32) (h : Hp) : Option (Int32 × Hp) :=
  some (s0, h)
noncomputable def s_Mod_agree (v1 : Int32) (v2 : Int32) (h : Hp) : Option (Int32 × Hp) :=
  (s_Mod_isMoon v1 h).bind fun u1 => if u1 = 0 then
    s_Mod_agree_16 h
  else
    (s_Mod_lies v2 ((0 : Int32)) ((5 : Int32)) h).bind fun u2 => if u2 = 0 then
      s_Mod_agree_16 h
    else
      (s_Mod_agrees v1 ((-1 : Int32)) h).bind fun u3 => if v2 = 0 then
        some (hI u3 84 39, u3)
      else
        if (hI u3 84 39) = 0 then
          some ((-1 : Int32), u3)
        else
          if v2 = ((1 : Int32)) then
            s_Mod_agree_94 (hI u3 84 40) u3
          else
            if v2 = ((2 : Int32)) then
              s_Mod_agree_94 (hI u3 84 41) u3
            else
              if v2 = ((3 : Int32)) then
                s_Mod_agree_94 (hI u3 84 42) u3
              else
                if v2 = ((4 : Int32)) then
                  s_Mod_agree_94 (hI u3 84 43) u3
                else
                  s_Mod_agree_94 (hI u3 84 44) u3
def O_Mod_agree (G : jG) (X : jX) (out : (Int32 × Hp)) : Prop := jO G X (some .int) (some (.int out.1)) out.2
theorem w_Mod_agree_16 {G : jG} {X : jX} (C : jC G X cX12_agree 3 RX12 6 190) {h : Hp} {out : (Int32 × Hp)} (O : (O_Mod_agree G X) out) (hm : s_Mod_agree_16 h = some out) : J G X 16 [] [] h := by
  unfold s_Mod_agree_16 at hm
  refine j_iconst C (-1 : Int32) dX12_agree_16 (by decide) ?_
  obtain rfl := Option.some.inj hm
  exact j_iret C O dX12_agree_17
theorem w_Mod_agree_94 {G : jG} {X : jX} (C : jC G X cX12_agree 3 RX12 6 190) {s0 : Int32} {h : Hp} {out : (Int32 × Hp)} (O : (O_Mod_agree G X) out) (hm : s_Mod_agree_94 s0 h = some out) : J G X 94 [] [.int s0] h := by
  unfold s_Mod_agree_94 at hm
  obtain rfl := Option.some.inj hm
  exact j_iret C O dX12_agree_94
theorem w_Mod_agree {G : jG} {X : jX} (C : jC G X cX12_agree 3 RX12 6 190) {v1 : Int32} {v2 : Int32} {h : Hp} {out : (Int32 × Hp)} (O : (O_Mod_agree G X) out) (hm : s_Mod_agree v1 v2 h = some out) : J G X 0 [(0, .ref (G.1 + 84)), (1, .int v1), (2, .int v2)] [] h := by
  unfold s_Mod_agree at hm
  refine j_iload_n C 1 dX12_agree_0 rfl rfl ?_
  refine j_cS C l_X12_132 [.int v1] [] (fun u1 => some (.int u1)) (fun _ => h) (fun u1 => [.int u1]) hm (fun l u hu => c_Mod_isMoon hu) rfl (Nat.le_of_ble_eq_true rfl) rfl (Nat.le_of_ble_eq_true rfl) (Nat.le_of_ble_eq_true rfl) (fun _ => rfl) dX12_agree_1 (fun u1 hm => ?_)
  refine j_ifeq C 16 dX12_agree_4 (by decide) hm (fun hm => ?_) (fun hm => ?_)
  · refine j_sub (L' := []) [] rfl ?_
    exact w_Mod_agree_16 C O hm
  · refine j_iload_n C 2 dX12_agree_7 rfl rfl ?_
    refine j_iconst C 0 dX12_agree_8 (by decide) ?_
    refine j_iconst C 5 dX12_agree_9 (by decide) ?_
    refine j_cS C l_X12_113 [.int v2, .int ((0 : Int32)), .int ((5 : Int32))] [] (fun u2 => some (.int u2)) (fun _ => h) (fun u2 => [.int u2]) hm (fun l u hu => c_Mod_lies hu) rfl (Nat.le_of_ble_eq_true rfl) rfl (Nat.le_of_ble_eq_true rfl) (Nat.le_of_ble_eq_true rfl) (fun _ => rfl) dX12_agree_10 (fun u2 hm => ?_)
    refine j_ifne C 18 dX12_agree_13 (by decide) hm (fun hm => ?_) (fun hm => ?_)
    · refine j_sub (L' := []) [] rfl ?_
      exact w_Mod_agree_16 C O hm
    · refine j_aload_n C 0 dX12_agree_18 rfl rfl ?_
      refine j_iload_n C 1 dX12_agree_19 rfl rfl ?_
      refine j_iconst C (-1 : Int32) dX12_agree_20 (by decide) ?_
      refine j_cV C l_X12_416 [.int v1, .int ((-1 : Int32))] [] (fun _ => none) (fun u3 => u3) (fun u3 => []) n_84 hm (fun l u hu => c_Mod_agrees hu) rfl (Nat.le_of_ble_eq_true rfl) rfl (Nat.le_of_ble_eq_true rfl) (Nat.le_of_ble_eq_true rfl) (fun _ => rfl) dX12_agree_21 (fun u3 hm => ?_)
      refine j_iload_n C 2 dX12_agree_24 rfl rfl ?_
      refine j_ifne C 33 dX12_agree_25 (by decide) hm (fun hm => ?_) (fun hm => ?_)
      · refine j_aload_n C 0 dX12_agree_28 rfl rfl ?_
        refine j_gI C f_X12_398 n_84 dX12_agree_29 ?_
        obtain rfl := Option.some.inj hm
        exact j_iret C O dX12_agree_32
      · refine j_aload_n C 0 dX12_agree_33 rfl rfl ?_
        refine j_gI C f_X12_398 n_84 dX12_agree_34 ?_
        refine j_ifne C 42 dX12_agree_37 (by decide) hm (fun hm => ?_) (fun hm => ?_)
        · refine j_iconst C (-1 : Int32) dX12_agree_40 (by decide) ?_
          obtain rfl := Option.some.inj hm
          exact j_iret C O dX12_agree_41
        · refine j_iload_n C 2 dX12_agree_42 rfl rfl ?_
          refine j_iconst C 1 dX12_agree_43 (by decide) ?_
          refine j_if_icmpne C 54 dX12_agree_44 (by decide) hm (fun hm => ?_) (fun hm => ?_)
          · refine j_aload_n C 0 dX12_agree_47 rfl rfl ?_
            refine j_gI C f_X12_401 n_84 dX12_agree_48 ?_
            refine j_goto C 94 dX12_agree_51 (by decide) ?_
            refine j_sub (L' := []) [] rfl ?_
            exact w_Mod_agree_94 C O hm
          · refine j_iload_n C 2 dX12_agree_54 rfl rfl ?_
            refine j_iconst C 2 dX12_agree_55 (by decide) ?_
            refine j_if_icmpne C 66 dX12_agree_56 (by decide) hm (fun hm => ?_) (fun hm => ?_)
            · refine j_aload_n C 0 dX12_agree_59 rfl rfl ?_
              refine j_gI C f_X12_413 n_84 dX12_agree_60 ?_
              refine j_goto C 94 dX12_agree_63 (by decide) ?_
              refine j_sub (L' := []) [] rfl ?_
              exact w_Mod_agree_94 C O hm
            · refine j_iload_n C 2 dX12_agree_66 rfl rfl ?_
              refine j_iconst C 3 dX12_agree_67 (by decide) ?_
              refine j_if_icmpne C 78 dX12_agree_68 (by decide) hm (fun hm => ?_) (fun hm => ?_)
              · refine j_aload_n C 0 dX12_agree_71 rfl rfl ?_
                refine j_gI C f_X12_404 n_84 dX12_agree_72 ?_
                refine j_goto C 94 dX12_agree_75 (by decide) ?_
                refine j_sub (L' := []) [] rfl ?_
                exact w_Mod_agree_94 C O hm
              · refine j_iload_n C 2 dX12_agree_78 rfl rfl ?_
                refine j_iconst C 4 dX12_agree_79 (by decide) ?_
                refine j_if_icmpne C 90 dX12_agree_80 (by decide) hm (fun hm => ?_) (fun hm => ?_)
                · refine j_aload_n C 0 dX12_agree_83 rfl rfl ?_
                  refine j_gI C f_X12_407 n_84 dX12_agree_84 ?_
                  refine j_goto C 94 dX12_agree_87 (by decide) ?_
                  refine j_sub (L' := []) [] rfl ?_
                  exact w_Mod_agree_94 C O hm
                · refine j_aload_n C 0 dX12_agree_90 rfl rfl ?_
                  refine j_gI C f_X12_410 n_84 dX12_agree_91 ?_
                  refine j_sub (L' := []) [] rfl ?_
                  exact w_Mod_agree_94 C O hm
theorem c_Mod_agree {G : jG} {l : Launch} {v1 : Int32} {v2 : Int32} {h : Hp} {out : (Int32 × Hp)} (hm : s_Mod_agree v1 v2 h = some out) : mt G l yX12_agree cX12_agree 3 (some .int) 6 190 [.ref (G.1 + 84), .int v1, .int v2] h (some (.int out.1)) out.2 :=
  mt_of (by decide) (Nat.le_of_ble_eq_true rfl) _ rfl (fun X I C O => w_Mod_agree C O hm)
noncomputable def s_Mod_codeAt_22 (s0 : Int32) (h : Hp) : Option Int32 :=
  some (s0)
noncomputable def s_Mod_codeAt (v1 : Int32) (h : Hp) : Option Int32 :=
  if (hI h 84 20) ≤ v1 then
    s_Mod_codeAt_22 ((0 : Int32)) h
  else
    ib (((198 : Int32)) + v1) 4998 <| s_Mod_codeAt_22 (hI h 86 (ix (((198 : Int32)) + v1))) h
def O_Mod_codeAt (G : jG) (X : jX) (h : Hp) (out : Int32) : Prop := jO G X (some .int) (some (.int out)) h
theorem w_Mod_codeAt_22 {G : jG} {X : jX} (C : jC G X cX12_codeAt 2 RX12 1 70) {s0 : Int32} {h : Hp} {out : Int32} (O : (O_Mod_codeAt G X h) out) (hm : s_Mod_codeAt_22 s0 h = some out) : J G X 22 [] [.int s0] h := by
  unfold s_Mod_codeAt_22 at hm
  obtain rfl := Option.some.inj hm
  exact j_iret C O dX12_codeAt_22
theorem w_Mod_codeAt {G : jG} {X : jX} (C : jC G X cX12_codeAt 2 RX12 1 70) {v1 : Int32} {h : Hp} {out : Int32} (O : (O_Mod_codeAt G X h) out) (hm : s_Mod_codeAt v1 h = some out) : J G X 0 [(0, .ref (G.1 + 84)), (1, .int v1)] [] h := by
  unfold s_Mod_codeAt at hm
  refine j_iload_n C 1 dX12_codeAt_0 rfl rfl ?_
  refine j_aload_n C 0 dX12_codeAt_1 rfl rfl ?_
  refine j_gI C f_X12_215 n_84 dX12_codeAt_2 ?_
  refine j_if_icmpge C 21 dX12_codeAt_5 (by decide) hm (fun hm => ?_) (fun hm => ?_)
  · refine j_iconst C 0 dX12_codeAt_21 (by decide) ?_
    refine j_sub (L' := []) [] rfl ?_
    exact w_Mod_codeAt_22 C O hm
  · refine j_aload_n C 0 dX12_codeAt_8 rfl rfl ?_
    refine j_gS C f_X12_20 n_84 q_84_3 dX12_codeAt_9 ?_
    refine j_sipush C 198 dX12_codeAt_12 (by decide) ?_
    refine j_iload_n C 1 dX12_codeAt_15 rfl rfl ?_
    refine j_iadd C dX12_codeAt_16 ?_
    refine j_iald C n_86 hm dX12_codeAt_17 (fun hm => ?_)
    refine j_goto C 22 dX12_codeAt_18 (by decide) ?_
    refine j_sub (L' := []) [] rfl ?_
    exact w_Mod_codeAt_22 C O hm
theorem c_Mod_codeAt {G : jG} {l : Launch} {v1 : Int32} {h : Hp} {out : Int32} (hm : s_Mod_codeAt v1 h = some out) : mt G l yX12_codeAt cX12_codeAt 2 (some .int) 1 70 [.ref (G.1 + 84), .int v1] h (some (.int out)) h :=
  mt_of (by decide) (Nat.le_of_ble_eq_true rfl) _ rfl (fun X I C O => w_Mod_codeAt C O hm)
noncomputable def s_Mod_passes0_32 (v2 : Int32) (h : Hp) : Option (Int32 × Hp) :=
  bz v2 <| some (v2, h)
noncomputable def s_Mod_passes0_17 (s0 : Int32) (h : Hp) : Option (Int32 × Hp) :=
  if s0 = 0 then
    s_Mod_passes0_32 s0 h
  else
    s_Mod_passes0_32 s0 (sI h 84 19 ((hI h 84 19) + ((1 : Int32))))
noncomputable def s_Mod_passes0 (v1 : Int32) (h : Hp) : Option (Int32 × Hp) :=
  (s_Mod_codeAt (hI h 84 19) h).bind fun u1 => if u1 = v1 then
    s_Mod_passes0_17 ((1 : Int32)) h
  else
    s_Mod_passes0_17 ((0 : Int32)) h
def O_Mod_passes0 (G : jG) (X : jX) (out : (Int32 × Hp)) : Prop := jO G X (some .boolean) (some (.int out.1)) out.2
theorem w_Mod_passes0_32 {G : jG} {X : jX} (C : jC G X cX12_passes0 3 RX12 2 91) {v2 : Int32} {h : Hp} {out : (Int32 × Hp)} (O : (O_Mod_passes0 G X) out) (hm : s_Mod_passes0_32 v2 h = some out) : J G X 32 [(2, .int v2)] [] h := by
  unfold s_Mod_passes0_32 at hm
  refine j_iload_n C 0 dX12_passes0_32 rfl rfl ?_
  obtain ⟨cz, hm⟩ := bz_inv hm
  obtain rfl := Option.some.inj hm
  exact j_zret C O cz dX12_passes0_33
theorem w_Mod_passes0_17 {G : jG} {X : jX} (C : jC G X cX12_passes0 3 RX12 2 91) {s0 : Int32} {h : Hp} {out : (Int32 × Hp)} (O : (O_Mod_passes0 G X) out) (hm : s_Mod_passes0_17 s0 h = some out) : J G X 17 [(0, .ref (G.1 + 84))] [.int s0] h := by
  unfold s_Mod_passes0_17 at hm
  refine j_istore_n C [(2, .int s0), (0, .ref (G.1 + 84))] dX12_passes0_17 rfl (by decide) rfl ?_
  refine j_iload_n C 0 dX12_passes0_18 rfl rfl ?_
  refine j_ifeq C 32 dX12_passes0_19 (by decide) hm (fun hm => ?_) (fun hm => ?_)
  · refine j_sub (L' := [(2, .int s0)]) [0] rfl ?_
    exact w_Mod_passes0_32 C O hm
  · refine j_aload_n C 1 dX12_passes0_22 rfl rfl ?_
    refine j_dup C dX12_passes0_23 rfl ?_
    refine j_gI C f_X12_218 n_84 dX12_passes0_24 ?_
    refine j_iconst C 1 dX12_passes0_27 (by decide) ?_
    refine j_iadd C dX12_passes0_28 ?_
    refine j_pI C f_X12_218 n_84 dX12_passes0_29 ?_
    refine j_sub (L' := [(2, .int s0)]) [0] rfl ?_
    exact w_Mod_passes0_32 C O hm
theorem w_Mod_passes0 {G : jG} {X : jX} (C : jC G X cX12_passes0 3 RX12 2 91) {v1 : Int32} {h : Hp} {out : (Int32 × Hp)} (O : (O_Mod_passes0 G X) out) (hm : s_Mod_passes0 v1 h = some out) : J G X 0 [(0, .ref (G.1 + 84)), (1, .int v1)] [] h := by
  unfold s_Mod_passes0 at hm
  refine j_aload_n C 0 dX12_passes0_0 rfl rfl ?_
  refine j_aload_n C 0 dX12_passes0_1 rfl rfl ?_
  refine j_gI C f_X12_218 n_84 dX12_passes0_2 ?_
  refine j_cV C l_X12_221 [.int (hI h 84 19)] [] (fun u1 => some (.int u1)) (fun _ => h) (fun u1 => [.int u1]) n_84 hm (fun l u hu => c_Mod_codeAt hu) rfl (Nat.le_of_ble_eq_true rfl) rfl (Nat.le_of_ble_eq_true rfl) (Nat.le_of_ble_eq_true rfl) (fun _ => rfl) dX12_passes0_5 (fun u1 hm => ?_)
  refine j_iload_n C 1 dX12_passes0_8 rfl rfl ?_
  refine j_if_icmpne C 16 dX12_passes0_9 (by decide) hm (fun hm => ?_) (fun hm => ?_)
  · refine j_iconst C 1 dX12_passes0_12 (by decide) ?_
    refine j_goto C 17 dX12_passes0_13 (by decide) ?_
    refine j_sub (L' := [(0, .ref (G.1 + 84))]) [0] rfl ?_
    exact w_Mod_passes0_17 C O hm
  · refine j_iconst C 0 dX12_passes0_16 (by decide) ?_
    refine j_sub (L' := [(0, .ref (G.1 + 84))]) [0] rfl ?_
    exact w_Mod_passes0_17 C O hm
theorem c_Mod_passes0 {G : jG} {l : Launch} {v1 : Int32} {h : Hp} {out : (Int32 × Hp)} (hm : s_Mod_passes0 v1 h = some out) : mt G l yX12_passes0 cX12_passes0 3 (some .boolean) 2 91 [.ref (G.1 + 84), .int v1] h (some (.int out.1)) out.2 :=
  mt_of (by decide) (Nat.le_of_ble_eq_true rfl) _ rfl (fun X I C O => w_Mod_passes0 C O hm)
noncomputable def s_Mod_sign (v0 : Int32) (h : Hp) : Option Int32 :=
  some (((100 : Int32)) + v0)
def O_Mod_sign (G : jG) (X : jX) (h : Hp) (out : Int32) : Prop := jO G X (some .int) (some (.int out)) h
theorem w_Mod_sign {G : jG} {X : jX} (C : jC G X cX12_sign 1 RX12 1 70) {v0 : Int32} {h : Hp} {out : Int32} (O : (O_Mod_sign G X h) out) (hm : s_Mod_sign v0 h = some out) : J G X 0 [(0, .int v0)] [] h := by
  unfold s_Mod_sign at hm
  refine j_bipush C 100 dX12_sign_0 (by decide) ?_
  refine j_iload_n C 0 dX12_sign_2 rfl rfl ?_
  refine j_iadd C dX12_sign_3 ?_
  obtain rfl := Option.some.inj hm
  exact j_iret C O dX12_sign_4
theorem c_Mod_sign {G : jG} {l : Launch} {v0 : Int32} {h : Hp} {out : Int32} (hm : s_Mod_sign v0 h = some out) : mt G l yX12_sign cX12_sign 1 (some .int) 1 70 [.int v0] h (some (.int out)) h :=
  mt_of (by decide) (Nat.le_of_ble_eq_true rfl) _ rfl (fun X I C O => w_Mod_sign C O hm)
noncomputable def s_Mod_bounded_37 (s0 : Int64) (h : Hp) : Option (Int64 × Hp) :=
  some (s0, h)
noncomputable def s_Mod_bounded_25 (v1 : Int64) (h : Hp) : Option (Int64 × Hp) :=
  if (hI h 84 21) = 0 then
    s_Mod_bounded_37 v1 h
  else
    s_Mod_bounded_37 ((0 : Int64)) h
noncomputable def s_Mod_bounded_20 (v1 : Int64) (h : Hp) : Option (Int64 × Hp) :=
  s_Mod_bounded_25 v1 (sI h 84 21 ((1 : Int32)))
noncomputable def s_Mod_bounded (v1 : Int64) (v3 : Int32) (h : Hp) : Option (Int64 × Hp) :=
  if v3 = 0 then
    s_Mod_bounded_25 v1 h
  else
    if 0 < (lg_cmp v1 ((1000000000 : Int64))) then
      s_Mod_bounded_20 v1 h
    else
      if 0 ≤ (lg_cmp v1 ((-1000000000 : Int64))) then
        s_Mod_bounded_25 v1 h
      else
        s_Mod_bounded_20 v1 h
def O_Mod_bounded (G : jG) (X : jX) (out : (Int64 × Hp)) : Prop := jO G X (some .long) (some (.long out.1)) out.2
theorem w_Mod_bounded_37 {G : jG} {X : jX} (C : jC G X cX12_bounded 4 RX12 1 70) {s0 : Int64} {h : Hp} {out : (Int64 × Hp)} (O : (O_Mod_bounded G X) out) (hm : s_Mod_bounded_37 s0 h = some out) : J G X 37 [] [.long s0] h := by
  unfold s_Mod_bounded_37 at hm
  obtain rfl := Option.some.inj hm
  exact j_lret C O dX12_bounded_37
theorem w_Mod_bounded_25 {G : jG} {X : jX} (C : jC G X cX12_bounded 4 RX12 1 70) {v1 : Int64} {h : Hp} {out : (Int64 × Hp)} (O : (O_Mod_bounded G X) out) (hm : s_Mod_bounded_25 v1 h = some out) : J G X 25 [(0, .ref (G.1 + 84)), (1, .long v1)] [] h := by
  unfold s_Mod_bounded_25 at hm
  refine j_aload_n C 0 dX12_bounded_25 rfl rfl ?_
  refine j_gZ C f_X12_228 n_84 dX12_bounded_26 ?_
  refine j_ifeq C 36 dX12_bounded_29 (by decide) hm (fun hm => ?_) (fun hm => ?_)
  · refine j_lload_n C 1 dX12_bounded_36 rfl rfl ?_
    refine j_sub (L' := []) [] rfl ?_
    exact w_Mod_bounded_37 C O hm
  · refine j_lconst C 0 dX12_bounded_32 (by decide) ?_
    refine j_goto C 37 dX12_bounded_33 (by decide) ?_
    refine j_sub (L' := []) [] rfl ?_
    exact w_Mod_bounded_37 C O hm
theorem w_Mod_bounded_20 {G : jG} {X : jX} (C : jC G X cX12_bounded 4 RX12 1 70) {v1 : Int64} {h : Hp} {out : (Int64 × Hp)} (O : (O_Mod_bounded G X) out) (hm : s_Mod_bounded_20 v1 h = some out) : J G X 20 [(0, .ref (G.1 + 84)), (1, .long v1)] [] h := by
  unfold s_Mod_bounded_20 at hm
  refine j_aload_n C 0 dX12_bounded_20 rfl rfl ?_
  refine j_iconst C 1 dX12_bounded_21 (by decide) ?_
  refine j_pZ C f_X12_228 n_84 (by decide) dX12_bounded_22 ?_
  refine j_sub (L' := [(0, .ref (G.1 + 84)), (1, .long v1)]) [0, 1] rfl ?_
  exact w_Mod_bounded_25 C O hm
theorem w_Mod_bounded {G : jG} {X : jX} (C : jC G X cX12_bounded 4 RX12 1 70) {v1 : Int64} {v3 : Int32} {h : Hp} {out : (Int64 × Hp)} (O : (O_Mod_bounded G X) out) (hm : s_Mod_bounded v1 v3 h = some out) : J G X 0 [(0, .ref (G.1 + 84)), (1, .long v1), (3, .int v3)] [] h := by
  unfold s_Mod_bounded at hm
  refine j_iload_n C 2 dX12_bounded_0 rfl rfl ?_
  refine j_ifeq C 25 dX12_bounded_1 (by decide) hm (fun hm => ?_) (fun hm => ?_)
  · refine j_sub (L' := [(0, .ref (G.1 + 84)), (1, .long v1)]) [0, 1] rfl ?_
    exact w_Mod_bounded_25 C O hm
  · refine j_lload_n C 1 dX12_bounded_4 rfl rfl ?_
    refine j_ldc2 C wd_1706 dX12_bounded_5 ?_
    refine j_lcmp C dX12_bounded_8 ?_
    refine j_ifgt C 20 dX12_bounded_9 (by decide) hm (fun hm => ?_) (fun hm => ?_)
    · refine j_sub (L' := [(0, .ref (G.1 + 84)), (1, .long v1)]) [0, 1] rfl ?_
      exact w_Mod_bounded_20 C O hm
    · refine j_lload_n C 1 dX12_bounded_12 rfl rfl ?_
      refine j_ldc2 C wd_1707 dX12_bounded_13 ?_
      refine j_lcmp C dX12_bounded_16 ?_
      refine j_ifge C 25 dX12_bounded_17 (by decide) hm (fun hm => ?_) (fun hm => ?_)
      · refine j_sub (L' := [(0, .ref (G.1 + 84)), (1, .long v1)]) [0, 1] rfl ?_
        exact w_Mod_bounded_25 C O hm
      · refine j_sub (L' := [(0, .ref (G.1 + 84)), (1, .long v1)]) [0, 1] rfl ?_
        exact w_Mod_bounded_20 C O hm
theorem c_Mod_bounded {G : jG} {l : Launch} {v1 : Int64} {v3 : Int32} {h : Hp} {out : (Int64 × Hp)} (hm : s_Mod_bounded v1 v3 h = some out) : mt G l yX12_bounded cX12_bounded 4 (some .long) 1 70 [.ref (G.1 + 84), .long v1, .int v3] h (some (.long out.1)) out.2 :=
  mt_of (by decide) (Nat.le_of_ble_eq_true rfl) _ rfl (fun X I C O => w_Mod_bounded C O hm)
