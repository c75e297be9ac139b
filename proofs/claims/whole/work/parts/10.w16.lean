noncomputable def s_Mod_terms_25 (s0 : Int32) (h : Hp) : Option (Int32 × Hp) :=
  some (s0, h)
noncomputable def s_Mod_terms (v1 : Int32) (v2 : Int32) (h : Hp) : Option (Int32 × Hp) :=
  (s_Mod_isTerm v1 v2 h).bind fun u1 => if u1 = 0 then
    (s_Mod_refuses ((-1 : Int32)) h).bind fun u2 => s_Mod_terms_25 u2.1 u2.2
  else
    (s_Mod_replaces (((30 : Int32)) + v1) v2 h).bind fun u3 => s_Mod_terms_25 u3.1 u3.2
def O_Mod_terms (G : jG) (X : jX) (out : (Int32 × Hp)) : Prop := jO G X (some .int) (some (.int out.1)) out.2
theorem w_Mod_terms_25 {G : jG} {X : jX} (C : jC G X cX12_terms 3 RX12 3 114) {s0 : Int32} {h : Hp} {out : (Int32 × Hp)} (O : (O_Mod_terms G X) out) (hm : s_Mod_terms_25 s0 h = some out) : J G X 25 [] [.int s0] h := by
  unfold s_Mod_terms_25 at hm
  obtain rfl := Option.some.inj hm
  exact j_iret C O dX12_terms_25
theorem w_Mod_terms {G : jG} {X : jX} (C : jC G X cX12_terms 3 RX12 3 114) {v1 : Int32} {v2 : Int32} {h : Hp} {out : (Int32 × Hp)} (O : (O_Mod_terms G X) out) (hm : s_Mod_terms v1 v2 h = some out) : J G X 0 [(0, .ref (G.1 + 84)), (1, .int v1), (2, .int v2)] [] h := by
  unfold s_Mod_terms at hm
  refine j_iload_n C 1 dX12_terms_0 rfl rfl ?_
  refine j_iload_n C 2 dX12_terms_1 rfl rfl ?_
  refine j_cS C l_X12_135 [.int v1, .int v2] [] (fun u1 => some (.int u1)) (fun _ => h) (fun u1 => [.int u1]) hm (fun l u hu => c_Mod_isTerm hu) rfl (Nat.le_of_ble_eq_true rfl) rfl (Nat.le_of_ble_eq_true rfl) (Nat.le_of_ble_eq_true rfl) (fun _ => rfl) dX12_terms_2 (fun u1 hm => ?_)
  refine j_ifeq C 20 dX12_terms_5 (by decide) hm (fun hm => ?_) (fun hm => ?_)
  · refine j_aload_n C 0 dX12_terms_20 rfl rfl ?_
    refine j_iconst C (-1 : Int32) dX12_terms_21 (by decide) ?_
    refine j_cV C l_X12_117 [.int ((-1 : Int32))] [] (fun u2 => some (.int u2.1)) (fun u2 => u2.2) (fun u2 => [.int u2.1]) n_84 hm (fun l u hu => c_Mod_refuses hu) rfl (Nat.le_of_ble_eq_true rfl) rfl (Nat.le_of_ble_eq_true rfl) (Nat.le_of_ble_eq_true rfl) (fun _ => rfl) dX12_terms_22 (fun u2 hm => ?_)
    refine j_sub (L' := []) [] rfl ?_
    exact w_Mod_terms_25 C O hm
  · refine j_aload_n C 0 dX12_terms_8 rfl rfl ?_
    refine j_bipush C 30 dX12_terms_9 (by decide) ?_
    refine j_iload_n C 1 dX12_terms_11 rfl rfl ?_
    refine j_iadd C dX12_terms_12 ?_
    refine j_iload_n C 2 dX12_terms_13 rfl rfl ?_
    refine j_cV C l_X12_128 [.int (((30 : Int32)) + v1), .int v2] [] (fun u3 => some (.int u3.1)) (fun u3 => u3.2) (fun u3 => [.int u3.1]) n_84 hm (fun l u hu => c_Mod_replaces hu) rfl (Nat.le_of_ble_eq_true rfl) rfl (Nat.le_of_ble_eq_true rfl) (Nat.le_of_ble_eq_true rfl) (fun _ => rfl) dX12_terms_14 (fun u3 hm => ?_)
    refine j_goto C 25 dX12_terms_17 (by decide) ?_
    refine j_sub (L' := []) [] rfl ?_
    exact w_Mod_terms_25 C O hm
theorem c_Mod_terms {G : jG} {l : Launch} {v1 : Int32} {v2 : Int32} {h : Hp} {out : (Int32 × Hp)} (hm : s_Mod_terms v1 v2 h = some out) : mt G l yX12_terms cX12_terms 3 (some .int) 3 114 [.ref (G.1 + 84), .int v1, .int v2] h (some (.int out.1)) out.2 :=
  mt_of (by decide) (Nat.le_of_ble_eq_true rfl) _ rfl (fun X I C O => w_Mod_terms C O hm)
noncomputable def s_Mod_way_20 (h : Hp) : Option (Int32 × Hp) :=
  some ((-1 : Int32), h)
noncomputable def s_Mod_way_54 (h : Hp) : Option (Int32 × Hp) :=
  some ((-1 : Int32), h)
noncomputable def s_Mod_way_161 (v1 : Int32) (v2 : Int32) (v3 : Int32) (v4 : Int32) (v5 : Int32) (v6 : Int32) (v7 : Int32) (v8 : Int32) (v10 : Int32) (s0 : Int32) (h : Hp) : Option ((Int32 × Int32 × Int32 × Int32 × Int32 × Int32 × Int32 × Int32 × Int32 × Int32 × Hp) ⊕ ((Int32 × Int32 × Int32 × Int32 × Int32 × Int32 × Int32 × Int32 × Hp) ⊕ ((Int32 × Int32 × Int32 × Int32 × Int32 × Int32 × Int32 × Hp) ⊕ (Int32 × Hp)))) :=
  some (.inl (v1, v2, v3, v4, v5, v6, v7, v8, s0, (v10 + (1 : Int32)), h))
noncomputable def s_Mod_way_156 (v1 : Int32) (v2 : Int32) (v3 : Int32) (v4 : Int32) (v5 : Int32) (v6 : Int32) (v7 : Int32) (v8 : Int32) (v10 : Int32) (h : Hp) : Option ((Int32 × Int32 × Int32 × Int32 × Int32 × Int32 × Int32 × Int32 × Int32 × Int32 × Hp) ⊕ ((Int32 × Int32 × Int32 × Int32 × Int32 × Int32 × Int32 × Int32 × Hp) ⊕ ((Int32 × Int32 × Int32 × Int32 × Int32 × Int32 × Int32 × Hp) ⊕ (Int32 × Hp)))) :=
  s_Mod_way_161 v1 v2 v3 v4 v5 v6 v7 v8 v10 ((1 : Int32)) h
noncomputable def s_Mod_way_160 (v1 : Int32) (v2 : Int32) (v3 : Int32) (v4 : Int32) (v5 : Int32) (v6 : Int32) (v7 : Int32) (v8 : Int32) (v10 : Int32) (h : Hp) : Option ((Int32 × Int32 × Int32 × Int32 × Int32 × Int32 × Int32 × Int32 × Int32 × Int32 × Hp) ⊕ ((Int32 × Int32 × Int32 × Int32 × Int32 × Int32 × Int32 × Int32 × Hp) ⊕ ((Int32 × Int32 × Int32 × Int32 × Int32 × Int32 × Int32 × Hp) ⊕ (Int32 × Hp)))) :=
  s_Mod_way_161 v1 v2 v3 v4 v5 v6 v7 v8 v10 ((0 : Int32)) h
noncomputable def s_Mod_way_207 (v1 : Int32) (v2 : Int32) (v3 : Int32) (v4 : Int32) (v5 : Int32) (v6 : Int32) (v7 : Int32) (v8 : Int32) (s0 : Int32) (s1 : Int32) (h : Hp) : Option ((Int32 × Int32 × Int32 × Int32 × Int32 × Int32 × Int32 × Int32 × Hp) ⊕ ((Int32 × Int32 × Int32 × Int32 × Int32 × Int32 × Int32 × Hp) ⊕ (Int32 × Hp))) :=
  ib s1 7200 <| some (.inl (v1, v2, v3, v4, v5, v6, v7, (v8 + (1 : Int32)), (sI h 101 (ix s1) (z_nz s0))))
noncomputable def s_Mod_way_206 (v1 : Int32) (v2 : Int32) (v3 : Int32) (v4 : Int32) (v5 : Int32) (v6 : Int32) (v7 : Int32) (v8 : Int32) (s0 : Int32) (h : Hp) : Option ((Int32 × Int32 × Int32 × Int32 × Int32 × Int32 × Int32 × Int32 × Hp) ⊕ ((Int32 × Int32 × Int32 × Int32 × Int32 × Int32 × Int32 × Hp) ⊕ (Int32 × Hp))) :=
  s_Mod_way_207 v1 v2 v3 v4 v5 v6 v7 v8 ((0 : Int32)) s0 h
noncomputable def s_Mod_way_169 (v1 : Int32) (v2 : Int32) (v3 : Int32) (v4 : Int32) (v5 : Int32) (v6 : Int32) (v7 : Int32) (v8 : Int32) (v9 : Int32) (h : Hp) : Option ((Int32 × Int32 × Int32 × Int32 × Int32 × Int32 × Int32 × Int32 × Hp) ⊕ ((Int32 × Int32 × Int32 × Int32 × Int32 × Int32 × Int32 × Hp) ⊕ (Int32 × Hp))) :=
  if v9 = 0 then
    s_Mod_way_206 v1 v2 v3 v4 v5 v6 v7 v8 ((((50 : Int32)) * v7) + v8) h
  else
    ib ((((50 : Int32)) * v7) + v8) 7200 <| if (hI h 100 (ix ((((50 : Int32)) * v7) + v8))) = 0 then
      s_Mod_way_206 v1 v2 v3 v4 v5 v6 v7 v8 ((((50 : Int32)) * v7) + v8) h
    else
      s_Mod_way_207 v1 v2 v3 v4 v5 v6 v7 v8 ((1 : Int32)) ((((50 : Int32)) * v7) + v8) h
noncomputable def s_Mod_way_100 (v1 : Int32) (v2 : Int32) (v3 : Int32) (v4 : Int32) (v5 : Int32) (v6 : Int32) (v7 : Int32) (v8 : Int32) (v9 : Int32) (v10 : Int32) (h : Hp) : Option ((Int32 × Int32 × Int32 × Int32 × Int32 × Int32 × Int32 × Int32 × Int32 × Int32 × Hp) ⊕ ((Int32 × Int32 × Int32 × Int32 × Int32 × Int32 × Int32 × Int32 × Hp) ⊕ ((Int32 × Int32 × Int32 × Int32 × Int32 × Int32 × Int32 × Hp) ⊕ (Int32 × Hp)))) :=
  if ((5 : Int32)) ≤ v10 then
    inr (s_Mod_way_169 v1 v2 v3 v4 v5 v6 v7 v8 v9 h)
  else
    if v6 ≤ v7 then
      inr (s_Mod_way_169 v1 v2 v3 v4 v5 v6 v7 v8 v9 h)
    else
      (s_Mod_behind v1 v8 v7 v10 ((0 : Int32)) h).bind fun u1 => if v9 = 0 then
        if u1 = ((-1 : Int32)) then
          s_Mod_way_160 v1 v2 v3 v4 v5 v6 v7 v8 v10 h
        else
          ib ((((50 : Int32)) * (v7 + ((1 : Int32)))) + u1) 7200 <| if (hI h 101 (ix ((((50 : Int32)) * (v7 + ((1 : Int32)))) + u1))) = 0 then
            s_Mod_way_160 v1 v2 v3 v4 v5 v6 v7 v8 v10 h
          else
            s_Mod_way_156 v1 v2 v3 v4 v5 v6 v7 v8 v10 h
      else
        s_Mod_way_156 v1 v2 v3 v4 v5 v6 v7 v8 v10 h
noncomputable def s_Mod_way_95 (v1 : Int32) (v2 : Int32) (v3 : Int32) (v4 : Int32) (v5 : Int32) (v6 : Int32) (v7 : Int32) (v8 : Int32) (s0 : Int32) (h : Hp) : Option ((Int32 × Int32 × Int32 × Int32 × Int32 × Int32 × Int32 × Int32 × Hp) ⊕ ((Int32 × Int32 × Int32 × Int32 × Int32 × Int32 × Int32 × Hp) ⊕ (Int32 × Hp))) :=
  lp (fun q => s_Mod_way_100 q.1 q.2.1 q.2.2.1 q.2.2.2.1 q.2.2.2.2.1 q.2.2.2.2.2.1 q.2.2.2.2.2.2.1 q.2.2.2.2.2.2.2.1 q.2.2.2.2.2.2.2.2.1 q.2.2.2.2.2.2.2.2.2.1 q.2.2.2.2.2.2.2.2.2.2) (v1, v2, v3, v4, v5, v6, v7, v8, s0, ((0 : Int32)), h)
noncomputable def s_Mod_way_94 (v1 : Int32) (v2 : Int32) (v3 : Int32) (v4 : Int32) (v5 : Int32) (v6 : Int32) (v7 : Int32) (v8 : Int32) (h : Hp) : Option ((Int32 × Int32 × Int32 × Int32 × Int32 × Int32 × Int32 × Int32 × Hp) ⊕ ((Int32 × Int32 × Int32 × Int32 × Int32 × Int32 × Int32 × Hp) ⊕ (Int32 × Hp))) :=
  s_Mod_way_95 v1 v2 v3 v4 v5 v6 v7 v8 ((0 : Int32)) h
noncomputable def s_Mod_way_69 (v1 : Int32) (v2 : Int32) (v3 : Int32) (v4 : Int32) (v5 : Int32) (v6 : Int32) (v7 : Int32) (v8 : Int32) (h : Hp) : Option ((Int32 × Int32 × Int32 × Int32 × Int32 × Int32 × Int32 × Int32 × Hp) ⊕ ((Int32 × Int32 × Int32 × Int32 × Int32 × Int32 × Int32 × Hp) ⊕ (Int32 × Hp))) :=
  if ((50 : Int32)) ≤ v8 then
    some (.inr (.inl (v1, v2, v3, v4, v5, v6, (v7 + (-1 : Int32)), h)))
  else
    if v7 = v6 then
      if v8 = v4 then
        s_Mod_way_95 v1 v2 v3 v4 v5 v6 v7 v8 ((1 : Int32)) h
      else
        s_Mod_way_94 v1 v2 v3 v4 v5 v6 v7 v8 h
    else
      s_Mod_way_94 v1 v2 v3 v4 v5 v6 v7 v8 h
noncomputable def s_Mod_way_295 (v1 : Int32) (v5 : Int32) (v7 : Int32) (v8 : Int32) (v9 : Int32) (v10 : Int32) (h : Hp) : Option ((Int32 × Int32 × Int32 × Int32 × Int32 × Int32 × Hp) ⊕ ((Int32 × Int32 × Int32 × Int32 × Hp) ⊕ (Int32 × Hp))) :=
  some (.inl (v1, v5, v7, v8, v9, (v10 + (1 : Int32)), h))
noncomputable def s_Mod_way_240 (v1 : Int32) (v5 : Int32) (v7 : Int32) (v8 : Int32) (v9 : Int32) (v10 : Int32) (h : Hp) : Option ((Int32 × Int32 × Int32 × Int32 × Int32 × Int32 × Hp) ⊕ ((Int32 × Int32 × Int32 × Int32 × Hp) ⊕ (Int32 × Hp))) :=
  if ((5 : Int32)) ≤ v10 then
    some (.inr (.inl (v1, v5, v9, (v8 + (1 : Int32)), h)))
  else
    (s_Mod_behind v1 v7 v8 v10 ((0 : Int32)) h).bind fun u1 => if u1 = ((-1 : Int32)) then
      s_Mod_way_295 v1 v5 v7 v8 v9 v10 h
    else
      if v9 ≤ u1 then
        s_Mod_way_295 v1 v5 v7 v8 v9 v10 h
      else
        ib ((((50 : Int32)) * (v8 + ((1 : Int32)))) + u1) 7200 <| if (hI h 101 (ix ((((50 : Int32)) * (v8 + ((1 : Int32)))) + u1))) = 0 then
          s_Mod_way_295 v1 v5 v7 v8 v9 v10 h
        else
          s_Mod_way_295 v1 v5 v7 v8 u1 v10 h
noncomputable def s_Mod_way_226 (v1 : Int32) (v5 : Int32) (v7 : Int32) (v8 : Int32) (h : Hp) : Option ((Int32 × Int32 × Int32 × Int32 × Hp) ⊕ (Int32 × Hp)) :=
  if v5 ≤ v8 then
    some (.inr (v7, h))
  else
    lp (fun q => s_Mod_way_240 q.1 q.2.1 q.2.2.1 q.2.2.2.1 q.2.2.2.2.1 q.2.2.2.2.2.1 q.2.2.2.2.2.2) (v1, v5, v7, v8, ((50 : Int32)), ((0 : Int32)), h)
noncomputable def s_Mod_way_60 (v1 : Int32) (v2 : Int32) (v3 : Int32) (v4 : Int32) (v5 : Int32) (v6 : Int32) (v7 : Int32) (h : Hp) : Option ((Int32 × Int32 × Int32 × Int32 × Int32 × Int32 × Int32 × Hp) ⊕ (Int32 × Hp)) :=
  if v7 < v2 then
    inr (lp (fun q => s_Mod_way_226 q.1 q.2.1 q.2.2.1 q.2.2.2.1 q.2.2.2.2) (v1, v5, v3, v2, h))
  else
    lp (fun q => s_Mod_way_69 q.1 q.2.1 q.2.2.1 q.2.2.2.1 q.2.2.2.2.1 q.2.2.2.2.2.1 q.2.2.2.2.2.2.1 q.2.2.2.2.2.2.2.1 q.2.2.2.2.2.2.2.2) (v1, v2, v3, v4, v5, v6, v7, ((0 : Int32)), h)
noncomputable def s_Mod_way (v1 : Int32) (v2 : Int32) (v3 : Int32) (v4 : Int32) (v5 : Int32) (h : Hp) : Option (Int32 × Hp) :=
  (s_Mod_isWay v1 v2 v3 v4 h).bind fun u1 => if u1 = 0 then
    s_Mod_way_20 h
  else
    (s_Mod_isStep v5 h).bind fun u2 => if u2 = 0 then
      s_Mod_way_20 h
    else
      (s_Mod_looks h).bind fun u3 => (s_Mod_soonestOf v1 v2 v3 v4 u3).bind fun u4 => if u4.1 = ((-1 : Int32)) then
        s_Mod_way_54 u4.2
      else
        (s_Mod_lies v5 v2 u4.1 u4.2).bind fun u5 => if u5 = 0 then
          s_Mod_way_54 u4.2
        else
          lp (fun q => s_Mod_way_60 q.1 q.2.1 q.2.2.1 q.2.2.2.1 q.2.2.2.2.1 q.2.2.2.2.2.1 q.2.2.2.2.2.2.1 q.2.2.2.2.2.2.2) (v1, v2, v3, v4, v5, u4.1, u4.1, u4.2)
def O_Mod_way (G : jG) (X : jX) (out : (Int32 × Hp)) : Prop := jO G X (some .int) (some (.int out.1)) out.2
def P_Mod_way_60 (G : jG) (X : jX) (q : Int32 × Int32 × Int32 × Int32 × Int32 × Int32 × Int32 × Hp) : Prop := J G X 60 [(0, .ref (G.1 + 84)), (1, .int q.1), (2, .int q.2.1), (3, .int q.2.2.1), (4, .int q.2.2.2.1), (5, .int q.2.2.2.2.1), (6, .int q.2.2.2.2.2.1), (7, .int q.2.2.2.2.2.2.1)] [] q.2.2.2.2.2.2.2
def O_Mod_way_60 (G : jG) (X : jX) (t : ((Int32 × Int32 × Int32 × Int32 × Int32 × Int32 × Int32 × Hp) ⊕ (Int32 × Hp))) : Prop := Sum.elim (P_Mod_way_60 G X) (O_Mod_way G X) t
def P_Mod_way_69 (G : jG) (X : jX) (q : Int32 × Int32 × Int32 × Int32 × Int32 × Int32 × Int32 × Int32 × Hp) : Prop := J G X 69 [(0, .ref (G.1 + 84)), (1, .int q.1), (2, .int q.2.1), (3, .int q.2.2.1), (4, .int q.2.2.2.1), (5, .int q.2.2.2.2.1), (6, .int q.2.2.2.2.2.1), (7, .int q.2.2.2.2.2.2.1), (8, .int q.2.2.2.2.2.2.2.1)] [] q.2.2.2.2.2.2.2.2
def O_Mod_way_69 (G : jG) (X : jX) (t : ((Int32 × Int32 × Int32 × Int32 × Int32 × Int32 × Int32 × Int32 × Hp) ⊕ ((Int32 × Int32 × Int32 × Int32 × Int32 × Int32 × Int32 × Hp) ⊕ (Int32 × Hp)))) : Prop := Sum.elim (P_Mod_way_69 G X) (O_Mod_way_60 G X) t
def P_Mod_way_100 (G : jG) (X : jX) (q : Int32 × Int32 × Int32 × Int32 × Int32 × Int32 × Int32 × Int32 × Int32 × Int32 × Hp) : Prop := J G X 100 [(0, .ref (G.1 + 84)), (1, .int q.1), (2, .int q.2.1), (3, .int q.2.2.1), (4, .int q.2.2.2.1), (5, .int q.2.2.2.2.1), (6, .int q.2.2.2.2.2.1), (7, .int q.2.2.2.2.2.2.1), (8, .int q.2.2.2.2.2.2.2.1), (9, .int q.2.2.2.2.2.2.2.2.1), (10, .int q.2.2.2.2.2.2.2.2.2.1)] [] q.2.2.2.2.2.2.2.2.2.2
def O_Mod_way_100 (G : jG) (X : jX) (t : ((Int32 × Int32 × Int32 × Int32 × Int32 × Int32 × Int32 × Int32 × Int32 × Int32 × Hp) ⊕ ((Int32 × Int32 × Int32 × Int32 × Int32 × Int32 × Int32 × Int32 × Hp) ⊕ ((Int32 × Int32 × Int32 × Int32 × Int32 × Int32 × Int32 × Hp) ⊕ (Int32 × Hp))))) : Prop := Sum.elim (P_Mod_way_100 G X) (O_Mod_way_69 G X) t
def P_Mod_way_226 (G : jG) (X : jX) (q : Int32 × Int32 × Int32 × Int32 × Hp) : Prop := J G X 226 [(0, .ref (G.1 + 84)), (1, .int q.1), (5, .int q.2.1), (7, .int q.2.2.1), (8, .int q.2.2.2.1)] [] q.2.2.2.2
def O_Mod_way_226 (G : jG) (X : jX) (t : ((Int32 × Int32 × Int32 × Int32 × Hp) ⊕ (Int32 × Hp))) : Prop := Sum.elim (P_Mod_way_226 G X) (O_Mod_way G X) t
def P_Mod_way_240 (G : jG) (X : jX) (q : Int32 × Int32 × Int32 × Int32 × Int32 × Int32 × Hp) : Prop := J G X 240 [(0, .ref (G.1 + 84)), (1, .int q.1), (5, .int q.2.1), (7, .int q.2.2.1), (8, .int q.2.2.2.1), (9, .int q.2.2.2.2.1), (10, .int q.2.2.2.2.2.1)] [] q.2.2.2.2.2.2
def O_Mod_way_240 (G : jG) (X : jX) (t : ((Int32 × Int32 × Int32 × Int32 × Int32 × Int32 × Hp) ⊕ ((Int32 × Int32 × Int32 × Int32 × Hp) ⊕ (Int32 × Hp)))) : Prop := Sum.elim (P_Mod_way_240 G X) (O_Mod_way_226 G X) t
theorem w_Mod_way_20 {G : jG} {X : jX} (C : jC G X cX12_way 12 RX12 179 4679) {h : Hp} {out : (Int32 × Hp)} (O : (O_Mod_way G X) out) (hm : s_Mod_way_20 h = some out) : J G X 20 [] [] h := by
  unfold s_Mod_way_20 at hm
  refine j_iconst C (-1 : Int32) dX12_way_20 (by decide) ?_
  obtain rfl := Option.some.inj hm
  exact j_iret C O dX12_way_21
theorem w_Mod_way_54 {G : jG} {X : jX} (C : jC G X cX12_way 12 RX12 179 4679) {h : Hp} {out : (Int32 × Hp)} (O : (O_Mod_way G X) out) (hm : s_Mod_way_54 h = some out) : J G X 54 [] [] h := by
  unfold s_Mod_way_54 at hm
  refine j_iconst C (-1 : Int32) dX12_way_54 (by decide) ?_
  obtain rfl := Option.some.inj hm
  exact j_iret C O dX12_way_55
theorem w_Mod_way_161 {G : jG} {X : jX} (C : jC G X cX12_way 12 RX12 179 4679) {v1 : Int32} {v2 : Int32} {v3 : Int32} {v4 : Int32} {v5 : Int32} {v6 : Int32} {v7 : Int32} {v8 : Int32} {v10 : Int32} {s0 : Int32} {h : Hp} {out : ((Int32 × Int32 × Int32 × Int32 × Int32 × Int32 × Int32 × Int32 × Int32 × Int32 × Hp) ⊕ ((Int32 × Int32 × Int32 × Int32 × Int32 × Int32 × Int32 × Int32 × Hp) ⊕ ((Int32 × Int32 × Int32 × Int32 × Int32 × Int32 × Int32 × Hp) ⊕ (Int32 × Hp))))} (O : (O_Mod_way_100 G X) out) (hm : s_Mod_way_161 v1 v2 v3 v4 v5 v6 v7 v8 v10 s0 h = some out) : J G X 161 [(0, .ref (G.1 + 84)), (1, .int v1), (2, .int v2), (3, .int v3), (4, .int v4), (5, .int v5), (6, .int v6), (7, .int v7), (8, .int v8), (10, .int v10)] [.int s0] h := by
  unfold s_Mod_way_161 at hm
  refine j_istore C [(9, .int s0), (0, .ref (G.1 + 84)), (1, .int v1), (2, .int v2), (3, .int v3), (4, .int v4), (5, .int v5), (6, .int v6), (7, .int v7), (8, .int v8), (10, .int v10)] dX12_way_161 (by decide) rfl ?_
  refine j_iinc C 10 [(10, .int (v10 + (1 : Int32))), (9, .int s0), (0, .ref (G.1 + 84)), (1, .int v1), (2, .int v2), (3, .int v3), (4, .int v4), (5, .int v5), (6, .int v6), (7, .int v7), (8, .int v8)] dX12_way_163 rfl (add_lit (by decide)) (by decide) rfl ?_
  refine j_goto C 100 dX12_way_166 (by decide) ?_
  obtain rfl := Option.some.inj hm
  refine j_sub (L' := [(0, .ref (G.1 + 84)), (1, .int v1), (2, .int v2), (3, .int v3), (4, .int v4), (5, .int v5), (6, .int v6), (7, .int v7), (8, .int v8), (9, .int s0), (10, .int (v10 + (1 : Int32)))]) [2, 3, 4, 5, 6, 7, 8, 9, 10, 1, 0] rfl ?_
  exact O
theorem w_Mod_way_156 {G : jG} {X : jX} (C : jC G X cX12_way 12 RX12 179 4679) {v1 : Int32} {v2 : Int32} {v3 : Int32} {v4 : Int32} {v5 : Int32} {v6 : Int32} {v7 : Int32} {v8 : Int32} {v10 : Int32} {h : Hp} {out : ((Int32 × Int32 × Int32 × Int32 × Int32 × Int32 × Int32 × Int32 × Int32 × Int32 × Hp) ⊕ ((Int32 × Int32 × Int32 × Int32 × Int32 × Int32 × Int32 × Int32 × Hp) ⊕ ((Int32 × Int32 × Int32 × Int32 × Int32 × Int32 × Int32 × Hp) ⊕ (Int32 × Hp))))} (O : (O_Mod_way_100 G X) out) (hm : s_Mod_way_156 v1 v2 v3 v4 v5 v6 v7 v8 v10 h = some out) : J G X 156 [(0, .ref (G.1 + 84)), (1, .int v1), (2, .int v2), (3, .int v3), (4, .int v4), (5, .int v5), (6, .int v6), (7, .int v7), (8, .int v8), (10, .int v10)] [] h := by
  unfold s_Mod_way_156 at hm
  refine j_iconst C 1 dX12_way_156 (by decide) ?_
  refine j_goto C 161 dX12_way_157 (by decide) ?_
  refine j_sub (L' := [(0, .ref (G.1 + 84)), (1, .int v1), (2, .int v2), (3, .int v3), (4, .int v4), (5, .int v5), (6, .int v6), (7, .int v7), (8, .int v8), (10, .int v10)]) [0, 1, 2, 3, 4, 5, 6, 7, 8, 9] rfl ?_
  exact w_Mod_way_161 C O hm
theorem w_Mod_way_160 {G : jG} {X : jX} (C : jC G X cX12_way 12 RX12 179 4679) {v1 : Int32} {v2 : Int32} {v3 : Int32} {v4 : Int32} {v5 : Int32} {v6 : Int32} {v7 : Int32} {v8 : Int32} {v10 : Int32} {h : Hp} {out : ((Int32 × Int32 × Int32 × Int32 × Int32 × Int32 × Int32 × Int32 × Int32 × Int32 × Hp) ⊕ ((Int32 × Int32 × Int32 × Int32 × Int32 × Int32 × Int32 × Int32 × Hp) ⊕ ((Int32 × Int32 × Int32 × Int32 × Int32 × Int32 × Int32 × Hp) ⊕ (Int32 × Hp))))} (O : (O_Mod_way_100 G X) out) (hm : s_Mod_way_160 v1 v2 v3 v4 v5 v6 v7 v8 v10 h = some out) : J G X 160 [(0, .ref (G.1 + 84)), (1, .int v1), (2, .int v2), (3, .int v3), (4, .int v4), (5, .int v5), (6, .int v6), (7, .int v7), (8, .int v8), (10, .int v10)] [] h := by
  unfold s_Mod_way_160 at hm
  refine j_iconst C 0 dX12_way_160 (by decide) ?_
  refine j_sub (L' := [(0, .ref (G.1 + 84)), (1, .int v1), (2, .int v2), (3, .int v3), (4, .int v4), (5, .int v5), (6, .int v6), (7, .int v7), (8, .int v8), (10, .int v10)]) [0, 1, 2, 3, 4, 5, 6, 7, 8, 9] rfl ?_
  exact w_Mod_way_161 C O hm
theorem w_Mod_way_207 {G : jG} {X : jX} (C : jC G X cX12_way 12 RX12 179 4679) {v1 : Int32} {v2 : Int32} {v3 : Int32} {v4 : Int32} {v5 : Int32} {v6 : Int32} {v7 : Int32} {v8 : Int32} {s0 : Int32} {s1 : Int32} {h : Hp} {out : ((Int32 × Int32 × Int32 × Int32 × Int32 × Int32 × Int32 × Int32 × Hp) ⊕ ((Int32 × Int32 × Int32 × Int32 × Int32 × Int32 × Int32 × Hp) ⊕ (Int32 × Hp)))} (O : (O_Mod_way_69 G X) out) (hm : s_Mod_way_207 v1 v2 v3 v4 v5 v6 v7 v8 s0 s1 h = some out) : J G X 207 [(0, .ref (G.1 + 84)), (1, .int v1), (2, .int v2), (3, .int v3), (4, .int v4), (5, .int v5), (6, .int v6), (7, .int v7), (8, .int v8)] [.int s0, .int s1, .ref (G.1 + 101)] h := by
  unfold s_Mod_way_207 at hm
  refine j_zast C n_101 hm dX12_way_207 (fun hm => ?_)
  refine j_iinc C 8 [(8, .int (v8 + (1 : Int32))), (0, .ref (G.1 + 84)), (1, .int v1), (2, .int v2), (3, .int v3), (4, .int v4), (5, .int v5), (6, .int v6), (7, .int v7)] dX12_way_208 rfl (add_lit (by decide)) (by decide) rfl ?_
  refine j_goto C 69 dX12_way_211 (by decide) ?_
  obtain rfl := Option.some.inj hm
  refine j_sub (L' := [(0, .ref (G.1 + 84)), (1, .int v1), (2, .int v2), (3, .int v3), (4, .int v4), (5, .int v5), (6, .int v6), (7, .int v7), (8, .int (v8 + (1 : Int32)))]) [1, 2, 3, 4, 5, 6, 7, 8, 0] rfl ?_
  exact O
theorem w_Mod_way_206 {G : jG} {X : jX} (C : jC G X cX12_way 12 RX12 179 4679) {v1 : Int32} {v2 : Int32} {v3 : Int32} {v4 : Int32} {v5 : Int32} {v6 : Int32} {v7 : Int32} {v8 : Int32} {s0 : Int32} {h : Hp} {out : ((Int32 × Int32 × Int32 × Int32 × Int32 × Int32 × Int32 × Int32 × Hp) ⊕ ((Int32 × Int32 × Int32 × Int32 × Int32 × Int32 × Int32 × Hp) ⊕ (Int32 × Hp)))} (O : (O_Mod_way_69 G X) out) (hm : s_Mod_way_206 v1 v2 v3 v4 v5 v6 v7 v8 s0 h = some out) : J G X 206 [(0, .ref (G.1 + 84)), (1, .int v1), (2, .int v2), (3, .int v3), (4, .int v4), (5, .int v5), (6, .int v6), (7, .int v7), (8, .int v8)] [.int s0, .ref (G.1 + 101)] h := by
  unfold s_Mod_way_206 at hm
  refine j_iconst C 0 dX12_way_206 (by decide) ?_
  refine j_sub (L' := [(0, .ref (G.1 + 84)), (1, .int v1), (2, .int v2), (3, .int v3), (4, .int v4), (5, .int v5), (6, .int v6), (7, .int v7), (8, .int v8)]) [0, 1, 2, 3, 4, 5, 6, 7, 8] rfl ?_
  exact w_Mod_way_207 C O hm
theorem w_Mod_way_169 {G : jG} {X : jX} (C : jC G X cX12_way 12 RX12 179 4679) {v1 : Int32} {v2 : Int32} {v3 : Int32} {v4 : Int32} {v5 : Int32} {v6 : Int32} {v7 : Int32} {v8 : Int32} {v9 : Int32} {h : Hp} {out : ((Int32 × Int32 × Int32 × Int32 × Int32 × Int32 × Int32 × Int32 × Hp) ⊕ ((Int32 × Int32 × Int32 × Int32 × Int32 × Int32 × Int32 × Hp) ⊕ (Int32 × Hp)))} (O : (O_Mod_way_69 G X) out) (hm : s_Mod_way_169 v1 v2 v3 v4 v5 v6 v7 v8 v9 h = some out) : J G X 169 [(0, .ref (G.1 + 84)), (1, .int v1), (2, .int v2), (3, .int v3), (4, .int v4), (5, .int v5), (6, .int v6), (7, .int v7), (8, .int v8), (9, .int v9)] [] h := by
  unfold s_Mod_way_169 at hm
  refine j_aload_n C 0 dX12_way_169 rfl rfl ?_
  refine j_gS C f_X12_73 n_84 q_84_31 dX12_way_170 ?_
  refine j_bipush C 50 dX12_way_173 (by decide) ?_
  refine j_iload C 7 dX12_way_175 rfl ?_
  refine j_imul C dX12_way_177 ?_
  refine j_iload C 8 dX12_way_178 rfl ?_
  refine j_iadd C dX12_way_180 ?_
  refine j_iload C 9 dX12_way_181 rfl ?_
  refine j_ifeq C 206 dX12_way_183 (by decide) hm (fun hm => ?_) (fun hm => ?_)
  · refine j_sub (L' := [(0, .ref (G.1 + 84)), (1, .int v1), (2, .int v2), (3, .int v3), (4, .int v4), (5, .int v5), (6, .int v6), (7, .int v7), (8, .int v8)]) [0, 1, 2, 3, 4, 5, 6, 7, 8] rfl ?_
    exact w_Mod_way_206 C O hm
  · refine j_aload_n C 0 dX12_way_186 rfl rfl ?_
    refine j_gS C f_X12_70 n_84 q_84_30 dX12_way_187 ?_
    refine j_bipush C 50 dX12_way_190 (by decide) ?_
    refine j_iload C 7 dX12_way_192 rfl ?_
    refine j_imul C dX12_way_194 ?_
    refine j_iload C 8 dX12_way_195 rfl ?_
    refine j_iadd C dX12_way_197 ?_
    refine j_zald C n_100 hm dX12_way_198 (fun hm => ?_)
    refine j_ifeq C 206 dX12_way_199 (by decide) hm (fun hm => ?_) (fun hm => ?_)
    · refine j_sub (L' := [(0, .ref (G.1 + 84)), (1, .int v1), (2, .int v2), (3, .int v3), (4, .int v4), (5, .int v5), (6, .int v6), (7, .int v7), (8, .int v8)]) [0, 1, 2, 3, 4, 5, 6, 7, 8] rfl ?_
      exact w_Mod_way_206 C O hm
    · refine j_iconst C 1 dX12_way_202 (by decide) ?_
      refine j_goto C 207 dX12_way_203 (by decide) ?_
      refine j_sub (L' := [(0, .ref (G.1 + 84)), (1, .int v1), (2, .int v2), (3, .int v3), (4, .int v4), (5, .int v5), (6, .int v6), (7, .int v7), (8, .int v8)]) [0, 1, 2, 3, 4, 5, 6, 7, 8] rfl ?_
      exact w_Mod_way_207 C O hm
theorem w_Mod_way_100 {G : jG} {X : jX} (C : jC G X cX12_way 12 RX12 179 4679) {v1 : Int32} {v2 : Int32} {v3 : Int32} {v4 : Int32} {v5 : Int32} {v6 : Int32} {v7 : Int32} {v8 : Int32} {v9 : Int32} {v10 : Int32} {h : Hp} {out : ((Int32 × Int32 × Int32 × Int32 × Int32 × Int32 × Int32 × Int32 × Int32 × Int32 × Hp) ⊕ ((Int32 × Int32 × Int32 × Int32 × Int32 × Int32 × Int32 × Int32 × Hp) ⊕ ((Int32 × Int32 × Int32 × Int32 × Int32 × Int32 × Int32 × Hp) ⊕ (Int32 × Hp))))} (O : (O_Mod_way_100 G X) out) (hm : s_Mod_way_100 v1 v2 v3 v4 v5 v6 v7 v8 v9 v10 h = some out) : J G X 100 [(0, .ref (G.1 + 84)), (1, .int v1), (2, .int v2), (3, .int v3), (4, .int v4), (5, .int v5), (6, .int v6), (7, .int v7), (8, .int v8), (9, .int v9), (10, .int v10)] [] h := by
  unfold s_Mod_way_100 at hm
  refine j_iload C 10 dX12_way_100 rfl ?_
  refine j_iconst C 5 dX12_way_102 (by decide) ?_
  refine j_if_icmpge C 169 dX12_way_103 (by decide) hm (fun hm => ?_) (fun hm => ?_)
  · obtain ⟨o_0, hm_0, rfl⟩ := inr_inv hm
    refine j_sub (L' := [(0, .ref (G.1 + 84)), (1, .int v1), (2, .int v2), (3, .int v3), (4, .int v4), (5, .int v5), (6, .int v6), (7, .int v7), (8, .int v8), (9, .int v9)]) [0, 1, 2, 3, 4, 5, 6, 7, 8, 9] rfl ?_
    exact w_Mod_way_169 C O hm_0
  · refine j_iload C 7 dX12_way_106 rfl ?_
    refine j_iload C 6 dX12_way_108 rfl ?_
    refine j_if_icmpge C 169 dX12_way_110 (by decide) hm (fun hm => ?_) (fun hm => ?_)
    · obtain ⟨o_0, hm_0, rfl⟩ := inr_inv hm
      refine j_sub (L' := [(0, .ref (G.1 + 84)), (1, .int v1), (2, .int v2), (3, .int v3), (4, .int v4), (5, .int v5), (6, .int v6), (7, .int v7), (8, .int v8), (9, .int v9)]) [0, 1, 2, 3, 4, 5, 6, 7, 8, 9] rfl ?_
      exact w_Mod_way_169 C O hm_0
    · refine j_aload_n C 0 dX12_way_113 rfl rfl ?_
      refine j_iload_n C 1 dX12_way_114 rfl rfl ?_
      refine j_iload C 8 dX12_way_115 rfl ?_
      refine j_iload C 7 dX12_way_117 rfl ?_
      refine j_iload C 10 dX12_way_119 rfl ?_
      refine j_iconst C 0 dX12_way_121 (by decide) ?_
      refine j_cV C l_X12_357 [.int v1, .int v8, .int v7, .int v10, .int ((0 : Int32))] [] (fun u1 => some (.int u1)) (fun _ => h) (fun u1 => [.int u1]) n_84 hm (fun l u hu => c_Mod_behind hu) rfl (Nat.le_of_ble_eq_true rfl) rfl (Nat.le_of_ble_eq_true rfl) (Nat.le_of_ble_eq_true rfl) (fun _ => rfl) dX12_way_122 (fun u1 hm => ?_)
      refine j_istore C [(11, .int u1), (0, .ref (G.1 + 84)), (1, .int v1), (2, .int v2), (3, .int v3), (4, .int v4), (5, .int v5), (6, .int v6), (7, .int v7), (8, .int v8), (9, .int v9), (10, .int v10)] dX12_way_125 (by decide) rfl ?_
      refine j_iload C 10 dX12_way_127 rfl ?_
      refine j_ifne C 156 dX12_way_129 (by decide) hm (fun hm => ?_) (fun hm => ?_)
      · refine j_iload C 0 dX12_way_132 rfl ?_
        refine j_iconst C (-1 : Int32) dX12_way_134 (by decide) ?_
        refine j_if_icmpeq C 160 dX12_way_135 (by decide) hm (fun hm => ?_) (fun hm => ?_)
        · refine j_sub (L' := [(0, .ref (G.1 + 84)), (1, .int v1), (2, .int v2), (3, .int v3), (4, .int v4), (5, .int v5), (6, .int v6), (7, .int v7), (8, .int v8), (10, .int v10)]) [1, 2, 3, 4, 5, 6, 7, 8, 9, 11] rfl ?_
          exact w_Mod_way_160 C O hm
        · refine j_aload_n C 1 dX12_way_138 rfl rfl ?_
          refine j_gS C f_X12_73 n_84 q_84_31 dX12_way_139 ?_
          refine j_bipush C 50 dX12_way_142 (by decide) ?_
          refine j_iload C 8 dX12_way_144 rfl ?_
          refine j_iconst C 1 dX12_way_146 (by decide) ?_
          refine j_iadd C dX12_way_147 ?_
          refine j_imul C dX12_way_148 ?_
          refine j_iload C 0 dX12_way_149 rfl ?_
          refine j_iadd C dX12_way_151 ?_
          refine j_zald C n_101 hm dX12_way_152 (fun hm => ?_)
          refine j_ifeq C 160 dX12_way_153 (by decide) hm (fun hm => ?_) (fun hm => ?_)
          · refine j_sub (L' := [(0, .ref (G.1 + 84)), (1, .int v1), (2, .int v2), (3, .int v3), (4, .int v4), (5, .int v5), (6, .int v6), (7, .int v7), (8, .int v8), (10, .int v10)]) [1, 2, 3, 4, 5, 6, 7, 8, 9, 11] rfl ?_
            exact w_Mod_way_160 C O hm
          · refine j_sub (L' := [(0, .ref (G.1 + 84)), (1, .int v1), (2, .int v2), (3, .int v3), (4, .int v4), (5, .int v5), (6, .int v6), (7, .int v7), (8, .int v8), (10, .int v10)]) [1, 2, 3, 4, 5, 6, 7, 8, 9, 11] rfl ?_
            exact w_Mod_way_156 C O hm
      · refine j_sub (L' := [(0, .ref (G.1 + 84)), (1, .int v1), (2, .int v2), (3, .int v3), (4, .int v4), (5, .int v5), (6, .int v6), (7, .int v7), (8, .int v8), (10, .int v10)]) [1, 2, 3, 4, 5, 6, 7, 8, 9, 11] rfl ?_
        exact w_Mod_way_156 C O hm
theorem k_Mod_way_100 {G : jG} {X : jX} (C : jC G X cX12_way 12 RX12 179 4679) {v1 : Int32} {v2 : Int32} {v3 : Int32} {v4 : Int32} {v5 : Int32} {v6 : Int32} {v7 : Int32} {v8 : Int32} {v9 : Int32} {v10 : Int32} {h : Hp} {out : ((Int32 × Int32 × Int32 × Int32 × Int32 × Int32 × Int32 × Int32 × Hp) ⊕ ((Int32 × Int32 × Int32 × Int32 × Int32 × Int32 × Int32 × Hp) ⊕ (Int32 × Hp)))} (O : (O_Mod_way_69 G X) out) (hm : lp (fun q => s_Mod_way_100 q.1 q.2.1 q.2.2.1 q.2.2.2.1 q.2.2.2.2.1 q.2.2.2.2.2.1 q.2.2.2.2.2.2.1 q.2.2.2.2.2.2.2.1 q.2.2.2.2.2.2.2.2.1 q.2.2.2.2.2.2.2.2.2.1 q.2.2.2.2.2.2.2.2.2.2) (v1, v2, v3, v4, v5, v6, v7, v8, v9, v10, h) = some out) : J G X 100 [(0, .ref (G.1 + 84)), (1, .int v1), (2, .int v2), (3, .int v3), (4, .int v4), (5, .int v5), (6, .int v6), (7, .int v7), (8, .int v8), (9, .int v9), (10, .int v10)] [] h :=
  lp_ok (P := P_Mod_way_100 G X) (O := (O_Mod_way_69 G X)) (fun q r hm O => w_Mod_way_100 C O hm) hm O
theorem w_Mod_way_95 {G : jG} {X : jX} (C : jC G X cX12_way 12 RX12 179 4679) {v1 : Int32} {v2 : Int32} {v3 : Int32} {v4 : Int32} {v5 : Int32} {v6 : Int32} {v7 : Int32} {v8 : Int32} {s0 : Int32} {h : Hp} {out : ((Int32 × Int32 × Int32 × Int32 × Int32 × Int32 × Int32 × Int32 × Hp) ⊕ ((Int32 × Int32 × Int32 × Int32 × Int32 × Int32 × Int32 × Hp) ⊕ (Int32 × Hp)))} (O : (O_Mod_way_69 G X) out) (hm : s_Mod_way_95 v1 v2 v3 v4 v5 v6 v7 v8 s0 h = some out) : J G X 95 [(0, .ref (G.1 + 84)), (1, .int v1), (2, .int v2), (3, .int v3), (4, .int v4), (5, .int v5), (6, .int v6), (7, .int v7), (8, .int v8)] [.int s0] h := by
  unfold s_Mod_way_95 at hm
  refine j_istore C [(9, .int s0), (0, .ref (G.1 + 84)), (1, .int v1), (2, .int v2), (3, .int v3), (4, .int v4), (5, .int v5), (6, .int v6), (7, .int v7), (8, .int v8)] dX12_way_95 (by decide) rfl ?_
  refine j_iconst C 0 dX12_way_97 (by decide) ?_
  refine j_istore C [(10, .int ((0 : Int32))), (9, .int s0), (0, .ref (G.1 + 84)), (1, .int v1), (2, .int v2), (3, .int v3), (4, .int v4), (5, .int v5), (6, .int v6), (7, .int v7), (8, .int v8)] dX12_way_98 (by decide) rfl ?_
  refine j_sub (L' := [(0, .ref (G.1 + 84)), (1, .int v1), (2, .int v2), (3, .int v3), (4, .int v4), (5, .int v5), (6, .int v6), (7, .int v7), (8, .int v8), (9, .int s0), (10, .int ((0 : Int32)))]) [2, 3, 4, 5, 6, 7, 8, 9, 10, 1, 0] rfl ?_
  exact k_Mod_way_100 C O hm
theorem w_Mod_way_94 {G : jG} {X : jX} (C : jC G X cX12_way 12 RX12 179 4679) {v1 : Int32} {v2 : Int32} {v3 : Int32} {v4 : Int32} {v5 : Int32} {v6 : Int32} {v7 : Int32} {v8 : Int32} {h : Hp} {out : ((Int32 × Int32 × Int32 × Int32 × Int32 × Int32 × Int32 × Int32 × Hp) ⊕ ((Int32 × Int32 × Int32 × Int32 × Int32 × Int32 × Int32 × Hp) ⊕ (Int32 × Hp)))} (O : (O_Mod_way_69 G X) out) (hm : s_Mod_way_94 v1 v2 v3 v4 v5 v6 v7 v8 h = some out) : J G X 94 [(0, .ref (G.1 + 84)), (1, .int v1), (2, .int v2), (3, .int v3), (4, .int v4), (5, .int v5), (6, .int v6), (7, .int v7), (8, .int v8)] [] h := by
  unfold s_Mod_way_94 at hm
  refine j_iconst C 0 dX12_way_94 (by decide) ?_
  refine j_sub (L' := [(0, .ref (G.1 + 84)), (1, .int v1), (2, .int v2), (3, .int v3), (4, .int v4), (5, .int v5), (6, .int v6), (7, .int v7), (8, .int v8)]) [0, 1, 2, 3, 4, 5, 6, 7, 8] rfl ?_
  exact w_Mod_way_95 C O hm
theorem w_Mod_way_69 {G : jG} {X : jX} (C : jC G X cX12_way 12 RX12 179 4679) {v1 : Int32} {v2 : Int32} {v3 : Int32} {v4 : Int32} {v5 : Int32} {v6 : Int32} {v7 : Int32} {v8 : Int32} {h : Hp} {out : ((Int32 × Int32 × Int32 × Int32 × Int32 × Int32 × Int32 × Int32 × Hp) ⊕ ((Int32 × Int32 × Int32 × Int32 × Int32 × Int32 × Int32 × Hp) ⊕ (Int32 × Hp)))} (O : (O_Mod_way_69 G X) out) (hm : s_Mod_way_69 v1 v2 v3 v4 v5 v6 v7 v8 h = some out) : J G X 69 [(0, .ref (G.1 + 84)), (1, .int v1), (2, .int v2), (3, .int v3), (4, .int v4), (5, .int v5), (6, .int v6), (7, .int v7), (8, .int v8)] [] h := by
  unfold s_Mod_way_69 at hm
  refine j_iload C 8 dX12_way_69 rfl ?_
  refine j_bipush C 50 dX12_way_71 (by decide) ?_
  refine j_if_icmpge C 214 dX12_way_73 (by decide) hm (fun hm => ?_) (fun hm => ?_)
  · refine j_iinc C 7 [(7, .int (v7 + (-1 : Int32))), (0, .ref (G.1 + 84)), (1, .int v1), (2, .int v2), (3, .int v3), (4, .int v4), (5, .int v5), (6, .int v6), (8, .int v8)] dX12_way_214 rfl (add_lit (by decide)) (by decide) rfl ?_
    refine j_goto C 60 dX12_way_217 (by decide) ?_
    obtain rfl := Option.some.inj hm
    refine j_sub (L' := [(0, .ref (G.1 + 84)), (1, .int v1), (2, .int v2), (3, .int v3), (4, .int v4), (5, .int v5), (6, .int v6), (7, .int (v7 + (-1 : Int32)))]) [1, 2, 3, 4, 5, 6, 7, 0] rfl ?_
    exact O
  · refine j_iload C 7 dX12_way_76 rfl ?_
    refine j_iload C 6 dX12_way_78 rfl ?_
    refine j_if_icmpne C 94 dX12_way_80 (by decide) hm (fun hm => ?_) (fun hm => ?_)
    · refine j_iload C 8 dX12_way_83 rfl ?_
      refine j_iload C 4 dX12_way_85 rfl ?_
      refine j_if_icmpne C 94 dX12_way_87 (by decide) hm (fun hm => ?_) (fun hm => ?_)
      · refine j_iconst C 1 dX12_way_90 (by decide) ?_
        refine j_goto C 95 dX12_way_91 (by decide) ?_
        refine j_sub (L' := [(0, .ref (G.1 + 84)), (1, .int v1), (2, .int v2), (3, .int v3), (4, .int v4), (5, .int v5), (6, .int v6), (7, .int v7), (8, .int v8)]) [0, 1, 2, 3, 4, 5, 6, 7, 8] rfl ?_
        exact w_Mod_way_95 C O hm
      · refine j_sub (L' := [(0, .ref (G.1 + 84)), (1, .int v1), (2, .int v2), (3, .int v3), (4, .int v4), (5, .int v5), (6, .int v6), (7, .int v7), (8, .int v8)]) [0, 1, 2, 3, 4, 5, 6, 7, 8] rfl ?_
        exact w_Mod_way_94 C O hm
    · refine j_sub (L' := [(0, .ref (G.1 + 84)), (1, .int v1), (2, .int v2), (3, .int v3), (4, .int v4), (5, .int v5), (6, .int v6), (7, .int v7), (8, .int v8)]) [0, 1, 2, 3, 4, 5, 6, 7, 8] rfl ?_
      exact w_Mod_way_94 C O hm
theorem k_Mod_way_69 {G : jG} {X : jX} (C : jC G X cX12_way 12 RX12 179 4679) {v1 : Int32} {v2 : Int32} {v3 : Int32} {v4 : Int32} {v5 : Int32} {v6 : Int32} {v7 : Int32} {v8 : Int32} {h : Hp} {out : ((Int32 × Int32 × Int32 × Int32 × Int32 × Int32 × Int32 × Hp) ⊕ (Int32 × Hp))} (O : (O_Mod_way_60 G X) out) (hm : lp (fun q => s_Mod_way_69 q.1 q.2.1 q.2.2.1 q.2.2.2.1 q.2.2.2.2.1 q.2.2.2.2.2.1 q.2.2.2.2.2.2.1 q.2.2.2.2.2.2.2.1 q.2.2.2.2.2.2.2.2) (v1, v2, v3, v4, v5, v6, v7, v8, h) = some out) : J G X 69 [(0, .ref (G.1 + 84)), (1, .int v1), (2, .int v2), (3, .int v3), (4, .int v4), (5, .int v5), (6, .int v6), (7, .int v7), (8, .int v8)] [] h :=
  lp_ok (P := P_Mod_way_69 G X) (O := (O_Mod_way_60 G X)) (fun q r hm O => w_Mod_way_69 C O hm) hm O
theorem w_Mod_way_295 {G : jG} {X : jX} (C : jC G X cX12_way 12 RX12 179 4679) {v1 : Int32} {v5 : Int32} {v7 : Int32} {v8 : Int32} {v9 : Int32} {v10 : Int32} {h : Hp} {out : ((Int32 × Int32 × Int32 × Int32 × Int32 × Int32 × Hp) ⊕ ((Int32 × Int32 × Int32 × Int32 × Hp) ⊕ (Int32 × Hp)))} (O : (O_Mod_way_240 G X) out) (hm : s_Mod_way_295 v1 v5 v7 v8 v9 v10 h = some out) : J G X 295 [(0, .ref (G.1 + 84)), (1, .int v1), (5, .int v5), (7, .int v7), (8, .int v8), (9, .int v9), (10, .int v10)] [] h := by
  unfold s_Mod_way_295 at hm
  refine j_iinc C 6 [(10, .int (v10 + (1 : Int32))), (0, .ref (G.1 + 84)), (1, .int v1), (5, .int v5), (7, .int v7), (8, .int v8), (9, .int v9)] dX12_way_295 rfl (add_lit (by decide)) (by decide) rfl ?_
  refine j_goto C 240 dX12_way_298 (by decide) ?_
  obtain rfl := Option.some.inj hm
  refine j_sub (L' := [(0, .ref (G.1 + 84)), (1, .int v1), (5, .int v5), (7, .int v7), (8, .int v8), (9, .int v9), (10, .int (v10 + (1 : Int32)))]) [1, 2, 3, 4, 5, 6, 0] rfl ?_
  exact O
theorem w_Mod_way_240 {G : jG} {X : jX} (C : jC G X cX12_way 12 RX12 179 4679) {v1 : Int32} {v5 : Int32} {v7 : Int32} {v8 : Int32} {v9 : Int32} {v10 : Int32} {h : Hp} {out : ((Int32 × Int32 × Int32 × Int32 × Int32 × Int32 × Hp) ⊕ ((Int32 × Int32 × Int32 × Int32 × Hp) ⊕ (Int32 × Hp)))} (O : (O_Mod_way_240 G X) out) (hm : s_Mod_way_240 v1 v5 v7 v8 v9 v10 h = some out) : J G X 240 [(0, .ref (G.1 + 84)), (1, .int v1), (5, .int v5), (7, .int v7), (8, .int v8), (9, .int v9), (10, .int v10)] [] h := by
  unfold s_Mod_way_240 at hm
  refine j_iload C 6 dX12_way_240 rfl ?_
  refine j_iconst C 5 dX12_way_242 (by decide) ?_
  refine j_if_icmpge C 301 dX12_way_243 (by decide) hm (fun hm => ?_) (fun hm => ?_)
  · refine j_iload C 5 dX12_way_301 rfl ?_
    refine j_istore C [(7, .int v9), (0, .ref (G.1 + 84)), (1, .int v1), (5, .int v5), (8, .int v8), (9, .int v9), (10, .int v10)] dX12_way_303 (by decide) rfl ?_
    refine j_iinc C 4 [(8, .int (v8 + (1 : Int32))), (7, .int v9), (0, .ref (G.1 + 84)), (1, .int v1), (5, .int v5), (9, .int v9), (10, .int v10)] dX12_way_305 rfl (add_lit (by decide)) (by decide) rfl ?_
    refine j_goto C 226 dX12_way_308 (by decide) ?_
    obtain rfl := Option.some.inj hm
    refine j_sub (L' := [(0, .ref (G.1 + 84)), (1, .int v1), (5, .int v5), (7, .int v9), (8, .int (v8 + (1 : Int32)))]) [2, 3, 4, 1, 0] rfl ?_
    exact O
  · refine j_aload_n C 0 dX12_way_246 rfl rfl ?_
    refine j_iload_n C 1 dX12_way_247 rfl rfl ?_
    refine j_iload C 3 dX12_way_248 rfl ?_
    refine j_iload C 4 dX12_way_250 rfl ?_
    refine j_iload C 6 dX12_way_252 rfl ?_
    refine j_iconst C 0 dX12_way_254 (by decide) ?_
    refine j_cV C l_X12_357 [.int v1, .int v7, .int v8, .int v10, .int ((0 : Int32))] [] (fun u1 => some (.int u1)) (fun _ => h) (fun u1 => [.int u1]) n_84 hm (fun l u hu => c_Mod_behind hu) rfl (Nat.le_of_ble_eq_true rfl) rfl (Nat.le_of_ble_eq_true rfl) (Nat.le_of_ble_eq_true rfl) (fun _ => rfl) dX12_way_255 (fun u1 hm => ?_)
    refine j_istore C [(11, .int u1), (0, .ref (G.1 + 84)), (1, .int v1), (5, .int v5), (7, .int v7), (8, .int v8), (9, .int v9), (10, .int v10)] dX12_way_258 (by decide) rfl ?_
    refine j_iload C 0 dX12_way_260 rfl ?_
    refine j_iconst C (-1 : Int32) dX12_way_262 (by decide) ?_
    refine j_if_icmpeq C 295 dX12_way_263 (by decide) hm (fun hm => ?_) (fun hm => ?_)
    · refine j_sub (L' := [(0, .ref (G.1 + 84)), (1, .int v1), (5, .int v5), (7, .int v7), (8, .int v8), (9, .int v9), (10, .int v10)]) [1, 2, 3, 4, 5, 6, 7] rfl ?_
      exact w_Mod_way_295 C O hm
    · refine j_iload C 0 dX12_way_266 rfl ?_
      refine j_iload C 6 dX12_way_268 rfl ?_
      refine j_if_icmpge C 295 dX12_way_270 (by decide) hm (fun hm => ?_) (fun hm => ?_)
      · refine j_sub (L' := [(0, .ref (G.1 + 84)), (1, .int v1), (5, .int v5), (7, .int v7), (8, .int v8), (9, .int v9), (10, .int v10)]) [1, 2, 3, 4, 5, 6, 7] rfl ?_
        exact w_Mod_way_295 C O hm
      · refine j_aload_n C 1 dX12_way_273 rfl rfl ?_
        refine j_gS C f_X12_73 n_84 q_84_31 dX12_way_274 ?_
        refine j_bipush C 50 dX12_way_277 (by decide) ?_
        refine j_iload C 5 dX12_way_279 rfl ?_
        refine j_iconst C 1 dX12_way_281 (by decide) ?_
        refine j_iadd C dX12_way_282 ?_
        refine j_imul C dX12_way_283 ?_
        refine j_iload C 0 dX12_way_284 rfl ?_
        refine j_iadd C dX12_way_286 ?_
        refine j_zald C n_101 hm dX12_way_287 (fun hm => ?_)
        refine j_ifeq C 295 dX12_way_288 (by decide) hm (fun hm => ?_) (fun hm => ?_)
        · refine j_sub (L' := [(0, .ref (G.1 + 84)), (1, .int v1), (5, .int v5), (7, .int v7), (8, .int v8), (9, .int v9), (10, .int v10)]) [1, 2, 3, 4, 5, 6, 7] rfl ?_
          exact w_Mod_way_295 C O hm
        · refine j_iload C 0 dX12_way_291 rfl ?_
          refine j_istore C [(9, .int u1), (11, .int u1), (0, .ref (G.1 + 84)), (1, .int v1), (5, .int v5), (7, .int v7), (8, .int v8), (10, .int v10)] dX12_way_293 (by decide) rfl ?_
          refine j_sub (L' := [(0, .ref (G.1 + 84)), (1, .int v1), (5, .int v5), (7, .int v7), (8, .int v8), (9, .int u1), (10, .int v10)]) [2, 3, 4, 5, 6, 0, 7] rfl ?_
          exact w_Mod_way_295 C O hm
theorem k_Mod_way_240 {G : jG} {X : jX} (C : jC G X cX12_way 12 RX12 179 4679) {v1 : Int32} {v5 : Int32} {v7 : Int32} {v8 : Int32} {v9 : Int32} {v10 : Int32} {h : Hp} {out : ((Int32 × Int32 × Int32 × Int32 × Hp) ⊕ (Int32 × Hp))} (O : (O_Mod_way_226 G X) out) (hm : lp (fun q => s_Mod_way_240 q.1 q.2.1 q.2.2.1 q.2.2.2.1 q.2.2.2.2.1 q.2.2.2.2.2.1 q.2.2.2.2.2.2) (v1, v5, v7, v8, v9, v10, h) = some out) : J G X 240 [(0, .ref (G.1 + 84)), (1, .int v1), (5, .int v5), (7, .int v7), (8, .int v8), (9, .int v9), (10, .int v10)] [] h :=
  lp_ok (P := P_Mod_way_240 G X) (O := (O_Mod_way_226 G X)) (fun q r hm O => w_Mod_way_240 C O hm) hm O
theorem w_Mod_way_226 {G : jG} {X : jX} (C : jC G X cX12_way 12 RX12 179 4679) {v1 : Int32} {v5 : Int32} {v7 : Int32} {v8 : Int32} {h : Hp} {out : ((Int32 × Int32 × Int32 × Int32 × Hp) ⊕ (Int32 × Hp))} (O : (O_Mod_way_226 G X) out) (hm : s_Mod_way_226 v1 v5 v7 v8 h = some out) : J G X 226 [(0, .ref (G.1 + 84)), (1, .int v1), (5, .int v5), (7, .int v7), (8, .int v8)] [] h := by
  unfold s_Mod_way_226 at hm
  refine j_iload C 4 dX12_way_226 rfl ?_
  refine j_iload C 2 dX12_way_228 rfl ?_
  refine j_if_icmpge C 311 dX12_way_230 (by decide) hm (fun hm => ?_) (fun hm => ?_)
  · refine j_iload C 3 dX12_way_311 rfl ?_
    obtain rfl := Option.some.inj hm
    exact j_iret C O dX12_way_313
  · refine j_bipush C 50 dX12_way_233 (by decide) ?_
    refine j_istore C [(9, .int ((50 : Int32))), (0, .ref (G.1 + 84)), (1, .int v1), (5, .int v5), (7, .int v7), (8, .int v8)] dX12_way_235 (by decide) rfl ?_
    refine j_iconst C 0 dX12_way_237 (by decide) ?_
    refine j_istore C [(10, .int ((0 : Int32))), (9, .int ((50 : Int32))), (0, .ref (G.1 + 84)), (1, .int v1), (5, .int v5), (7, .int v7), (8, .int v8)] dX12_way_238 (by decide) rfl ?_
    refine j_sub (L' := [(0, .ref (G.1 + 84)), (1, .int v1), (5, .int v5), (7, .int v7), (8, .int v8), (9, .int ((50 : Int32))), (10, .int ((0 : Int32)))]) [2, 3, 4, 5, 6, 1, 0] rfl ?_
    exact k_Mod_way_240 C O hm
theorem k_Mod_way_226 {G : jG} {X : jX} (C : jC G X cX12_way 12 RX12 179 4679) {v1 : Int32} {v5 : Int32} {v7 : Int32} {v8 : Int32} {h : Hp} {out : (Int32 × Hp)} (O : (O_Mod_way G X) out) (hm : lp (fun q => s_Mod_way_226 q.1 q.2.1 q.2.2.1 q.2.2.2.1 q.2.2.2.2) (v1, v5, v7, v8, h) = some out) : J G X 226 [(0, .ref (G.1 + 84)), (1, .int v1), (5, .int v5), (7, .int v7), (8, .int v8)] [] h :=
  lp_ok (P := P_Mod_way_226 G X) (O := (O_Mod_way G X)) (fun q r hm O => w_Mod_way_226 C O hm) hm O
theorem w_Mod_way_60 {G : jG} {X : jX} (C : jC G X cX12_way 12 RX12 179 4679) {v1 : Int32} {v2 : Int32} {v3 : Int32} {v4 : Int32} {v5 : Int32} {v6 : Int32} {v7 : Int32} {h : Hp} {out : ((Int32 × Int32 × Int32 × Int32 × Int32 × Int32 × Int32 × Hp) ⊕ (Int32 × Hp))} (O : (O_Mod_way_60 G X) out) (hm : s_Mod_way_60 v1 v2 v3 v4 v5 v6 v7 h = some out) : J G X 60 [(0, .ref (G.1 + 84)), (1, .int v1), (2, .int v2), (3, .int v3), (4, .int v4), (5, .int v5), (6, .int v6), (7, .int v7)] [] h := by
  unfold s_Mod_way_60 at hm
  refine j_iload C 7 dX12_way_60 rfl ?_
  refine j_iload_n C 2 dX12_way_62 rfl rfl ?_
  refine j_if_icmplt C 220 dX12_way_63 (by decide) hm (fun hm => ?_) (fun hm => ?_)
  · refine j_iload_n C 3 dX12_way_220 rfl rfl ?_
    refine j_istore C [(7, .int v3), (0, .ref (G.1 + 84)), (1, .int v1), (2, .int v2), (3, .int v3), (4, .int v4), (5, .int v5), (6, .int v6)] dX12_way_221 (by decide) rfl ?_
    refine j_iload_n C 3 dX12_way_223 rfl rfl ?_
    refine j_istore C [(8, .int v2), (7, .int v3), (0, .ref (G.1 + 84)), (1, .int v1), (2, .int v2), (3, .int v3), (4, .int v4), (5, .int v5), (6, .int v6)] dX12_way_224 (by decide) rfl ?_
    obtain ⟨o_0, hm_0, rfl⟩ := inr_inv hm
    refine j_sub (L' := [(0, .ref (G.1 + 84)), (1, .int v1), (5, .int v5), (7, .int v3), (8, .int v2)]) [2, 3, 7, 1, 0] rfl ?_
    exact k_Mod_way_226 C O hm_0
  · refine j_iconst C 0 dX12_way_66 (by decide) ?_
    refine j_istore C [(8, .int ((0 : Int32))), (0, .ref (G.1 + 84)), (1, .int v1), (2, .int v2), (3, .int v3), (4, .int v4), (5, .int v5), (6, .int v6), (7, .int v7)] dX12_way_67 (by decide) rfl ?_
    refine j_sub (L' := [(0, .ref (G.1 + 84)), (1, .int v1), (2, .int v2), (3, .int v3), (4, .int v4), (5, .int v5), (6, .int v6), (7, .int v7), (8, .int ((0 : Int32)))]) [1, 2, 3, 4, 5, 6, 7, 8, 0] rfl ?_
    exact k_Mod_way_69 C O hm
theorem k_Mod_way_60 {G : jG} {X : jX} (C : jC G X cX12_way 12 RX12 179 4679) {v1 : Int32} {v2 : Int32} {v3 : Int32} {v4 : Int32} {v5 : Int32} {v6 : Int32} {v7 : Int32} {h : Hp} {out : (Int32 × Hp)} (O : (O_Mod_way G X) out) (hm : lp (fun q => s_Mod_way_60 q.1 q.2.1 q.2.2.1 q.2.2.2.1 q.2.2.2.2.1 q.2.2.2.2.2.1 q.2.2.2.2.2.2.1 q.2.2.2.2.2.2.2) (v1, v2, v3, v4, v5, v6, v7, h) = some out) : J G X 60 [(0, .ref (G.1 + 84)), (1, .int v1), (2, .int v2), (3, .int v3), (4, .int v4), (5, .int v5), (6, .int v6), (7, .int v7)] [] h :=
  lp_ok (P := P_Mod_way_60 G X) (O := (O_Mod_way G X)) (fun q r hm O => w_Mod_way_60 C O hm) hm O
theorem w_Mod_way {G : jG} {X : jX} (C : jC G X cX12_way 12 RX12 179 4679) {v1 : Int32} {v2 : Int32} {v3 : Int32} {v4 : Int32} {v5 : Int32} {h : Hp} {out : (Int32 × Hp)} (O : (O_Mod_way G X) out) (hm : s_Mod_way v1 v2 v3 v4 v5 h = some out) : J G X 0 [(0, .ref (G.1 + 84)), (1, .int v1), (2, .int v2), (3, .int v3), (4, .int v4), (5, .int v5)] [] h := by
  unfold s_Mod_way at hm
  refine j_aload_n C 0 dX12_way_0 rfl rfl ?_
  refine j_iload_n C 1 dX12_way_1 rfl rfl ?_
  refine j_iload_n C 2 dX12_way_2 rfl rfl ?_
  refine j_iload_n C 3 dX12_way_3 rfl rfl ?_
  refine j_iload C 4 dX12_way_4 rfl ?_
  refine j_cV C l_X12_367 [.int v1, .int v2, .int v3, .int v4] [] (fun u1 => some (.int u1)) (fun _ => h) (fun u1 => [.int u1]) n_84 hm (fun l u hu => c_Mod_isWay hu) rfl (Nat.le_of_ble_eq_true rfl) rfl (Nat.le_of_ble_eq_true rfl) (Nat.le_of_ble_eq_true rfl) (fun _ => rfl) dX12_way_6 (fun u1 hm => ?_)
  refine j_ifeq C 20 dX12_way_9 (by decide) hm (fun hm => ?_) (fun hm => ?_)
  · refine j_sub (L' := []) [] rfl ?_
    exact w_Mod_way_20 C O hm
  · refine j_iload C 5 dX12_way_12 rfl ?_
    refine j_cS C l_X12_364 [.int v5] [] (fun u2 => some (.int u2)) (fun _ => h) (fun u2 => [.int u2]) hm (fun l u hu => c_Mod_isStep hu) rfl (Nat.le_of_ble_eq_true rfl) rfl (Nat.le_of_ble_eq_true rfl) (Nat.le_of_ble_eq_true rfl) (fun _ => rfl) dX12_way_14 (fun u2 hm => ?_)
    refine j_ifne C 22 dX12_way_17 (by decide) hm (fun hm => ?_) (fun hm => ?_)
    · refine j_sub (L' := []) [] rfl ?_
      exact w_Mod_way_20 C O hm
    · refine j_aload_n C 0 dX12_way_22 rfl rfl ?_
      refine j_cV C l_X12_321 [] [] (fun _ => none) (fun u3 => u3) (fun u3 => []) n_84 hm (fun l u hu => c_Mod_looks hu) rfl (Nat.le_of_ble_eq_true rfl) rfl (Nat.le_of_ble_eq_true rfl) (Nat.le_of_ble_eq_true rfl) (fun _ => rfl) dX12_way_23 (fun u3 hm => ?_)
      refine j_aload_n C 0 dX12_way_26 rfl rfl ?_
      refine j_iload_n C 1 dX12_way_27 rfl rfl ?_
      refine j_iload_n C 2 dX12_way_28 rfl rfl ?_
      refine j_iload_n C 3 dX12_way_29 rfl rfl ?_
      refine j_iload C 4 dX12_way_30 rfl ?_
      refine j_cV C l_X12_371 [.int v1, .int v2, .int v3, .int v4] [] (fun u4 => some (.int u4.1)) (fun u4 => u4.2) (fun u4 => [.int u4.1]) n_84 hm (fun l u hu => c_Mod_soonestOf hu) rfl (Nat.le_of_ble_eq_true rfl) rfl (Nat.le_of_ble_eq_true rfl) (Nat.le_of_ble_eq_true rfl) (fun _ => rfl) dX12_way_32 (fun u4 hm => ?_)
      refine j_istore C [(6, .int u4.1), (0, .ref (G.1 + 84)), (1, .int v1), (2, .int v2), (3, .int v3), (4, .int v4), (5, .int v5)] dX12_way_35 (by decide) rfl ?_
      refine j_iload C 0 dX12_way_37 rfl ?_
      refine j_iconst C (-1 : Int32) dX12_way_39 (by decide) ?_
      refine j_if_icmpeq C 54 dX12_way_40 (by decide) hm (fun hm => ?_) (fun hm => ?_)
      · refine j_sub (L' := []) [] rfl ?_
        exact w_Mod_way_54 C O hm
      · refine j_iload C 6 dX12_way_43 rfl ?_
        refine j_iload_n C 3 dX12_way_45 rfl rfl ?_
        refine j_iload C 0 dX12_way_46 rfl ?_
        refine j_cS C l_X12_113 [.int v5, .int v2, .int u4.1] [] (fun u5 => some (.int u5)) (fun _ => u4.2) (fun u5 => [.int u5]) hm (fun l u hu => c_Mod_lies hu) rfl (Nat.le_of_ble_eq_true rfl) rfl (Nat.le_of_ble_eq_true rfl) (Nat.le_of_ble_eq_true rfl) (fun _ => rfl) dX12_way_48 (fun u5 hm => ?_)
        refine j_ifne C 56 dX12_way_51 (by decide) hm (fun hm => ?_) (fun hm => ?_)
        · refine j_sub (L' := []) [] rfl ?_
          exact w_Mod_way_54 C O hm
        · refine j_iload C 0 dX12_way_56 rfl ?_
          refine j_istore C [(7, .int u4.1), (6, .int u4.1), (0, .ref (G.1 + 84)), (1, .int v1), (2, .int v2), (3, .int v3), (4, .int v4), (5, .int v5)] dX12_way_58 (by decide) rfl ?_
          refine j_sub (L' := [(0, .ref (G.1 + 84)), (1, .int v1), (2, .int v2), (3, .int v3), (4, .int v4), (5, .int v5), (6, .int u4.1), (7, .int u4.1)]) [2, 3, 4, 5, 6, 7, 1, 0] rfl ?_
          exact k_Mod_way_60 C O hm
theorem c_Mod_way {G : jG} {l : Launch} {v1 : Int32} {v2 : Int32} {v3 : Int32} {v4 : Int32} {v5 : Int32} {h : Hp} {out : (Int32 × Hp)} (hm : s_Mod_way v1 v2 v3 v4 v5 h = some out) : mt G l yX12_way cX12_way 12 (some .int) 179 4679 [.ref (G.1 + 84), .int v1, .int v2, .int v3, .int v4, .int v5] h (some (.int out.1)) out.2 :=
  mt_of (by decide) (Nat.le_of_ble_eq_true rfl) _ rfl (fun X I C O => w_Mod_way C O hm)
noncomputable def s_Race_isMoon (v0 : Int32) (h : Hp) : Option Int32 :=
  (s_Race_isWithin v0 ((0 : Int32)) ((3 : Int32)) h).bind fun u1 => bz u1 <| some (u1)
def O_Race_isMoon (G : jG) (X : jX) (h : Hp) (out : Int32) : Prop := jO G X (some .boolean) (some (.int out)) h
theorem w_Race_isMoon {G : jG} {X : jX} (C : jC G X cX11_isMoon 1 RX11 2 92) {v0 : Int32} {h : Hp} {out : Int32} (O : (O_Race_isMoon G X h) out) (hm : s_Race_isMoon v0 h = some out) : J G X 0 [(0, .int v0)] [] h := by
  unfold s_Race_isMoon at hm
  refine j_iload_n C 0 dX11_isMoon_0 rfl rfl ?_
  refine j_iconst C 0 dX11_isMoon_1 (by decide) ?_
  refine j_iconst C 3 dX11_isMoon_2 (by decide) ?_
  refine j_cS C l_X11_102 [.int v0, .int ((0 : Int32)), .int ((3 : Int32))] [] (fun u1 => some (.int u1)) (fun _ => h) (fun u1 => [.int u1]) hm (fun l u hu => c_Race_isWithin hu) rfl (Nat.le_of_ble_eq_true rfl) rfl (Nat.le_of_ble_eq_true rfl) (Nat.le_of_ble_eq_true rfl) (fun _ => rfl) dX11_isMoon_3 (fun u1 hm => ?_)
  obtain ⟨cz, hm⟩ := bz_inv hm
  obtain rfl := Option.some.inj hm
  exact j_zret C O cz dX11_isMoon_6
theorem c_Race_isMoon {G : jG} {l : Launch} {v0 : Int32} {h : Hp} {out : Int32} (hm : s_Race_isMoon v0 h = some out) : mt G l yX11_isMoon cX11_isMoon 1 (some .boolean) 2 92 [.int v0] h (some (.int out)) h :=
  mt_of (by decide) (Nat.le_of_ble_eq_true rfl) _ rfl (fun X I C O => w_Race_isMoon C O hm)
noncomputable def s_Race_moonPlace (v0 : Int32) (v1 : Int32) (h : Hp) : Option Int32 :=
  some (((v0 * ((4 : Int32))) + v1) * ((3 : Int32)))
def O_Race_moonPlace (G : jG) (X : jX) (h : Hp) (out : Int32) : Prop := jO G X (some .int) (some (.int out)) h
theorem w_Race_moonPlace {G : jG} {X : jX} (C : jC G X cX11_moonPlace 2 RX11 1 70) {v0 : Int32} {v1 : Int32} {h : Hp} {out : Int32} (O : (O_Race_moonPlace G X h) out) (hm : s_Race_moonPlace v0 v1 h = some out) : J G X 0 [(0, .int v0), (1, .int v1)] [] h := by
  unfold s_Race_moonPlace at hm
  refine j_iload_n C 0 dX11_moonPlace_0 rfl rfl ?_
  refine j_iconst C 4 dX11_moonPlace_1 (by decide) ?_
  refine j_imul C dX11_moonPlace_2 ?_
  refine j_iload_n C 1 dX11_moonPlace_3 rfl rfl ?_
  refine j_iadd C dX11_moonPlace_4 ?_
  refine j_iconst C 3 dX11_moonPlace_5 (by decide) ?_
  refine j_imul C dX11_moonPlace_6 ?_
  obtain rfl := Option.some.inj hm
  exact j_iret C O dX11_moonPlace_7
theorem c_Race_moonPlace {G : jG} {l : Launch} {v0 : Int32} {v1 : Int32} {h : Hp} {out : Int32} (hm : s_Race_moonPlace v0 v1 h = some out) : mt G l yX11_moonPlace cX11_moonPlace 2 (some .int) 1 70 [.int v0, .int v1] h (some (.int out)) h :=
  mt_of (by decide) (Nat.le_of_ble_eq_true rfl) _ rfl (fun X I C O => w_Race_moonPlace C O hm)
noncomputable def s_Race_wave_49 (s0 : Int32) (h : Hp) : Option Int32 :=
  some (s0)
noncomputable def s_Race_wave (v0 : Int32) (v1 : Int32) (v2 : Int32) (h : Hp) : Option Int32 :=
  cn v2 <| cn v2 <| lt ((((4000 : Int32)) * (z_rem (v0 + v1) v2)) / v2) fun x3 => if ((2000 : Int32)) < x3 then
    s_Race_wave_49 (-(((x3 - ((2000 : Int32))) * (((4000 : Int32)) - x3)) / ((1000 : Int32)))) h
  else
    s_Race_wave_49 ((x3 * (((2000 : Int32)) - x3)) / ((1000 : Int32))) h
def O_Race_wave (G : jG) (X : jX) (h : Hp) (out : Int32) : Prop := jO G X (some .int) (some (.int out)) h
theorem w_Race_wave_49 {G : jG} {X : jX} (C : jC G X cX11_wave 4 RX11 1 70) {s0 : Int32} {h : Hp} {out : Int32} (O : (O_Race_wave G X h) out) (hm : s_Race_wave_49 s0 h = some out) : J G X 49 [] [.int s0] h := by
  unfold s_Race_wave_49 at hm
  obtain rfl := Option.some.inj hm
  exact j_iret C O dX11_wave_49
theorem w_Race_wave {G : jG} {X : jX} (C : jC G X cX11_wave 4 RX11 1 70) {v0 : Int32} {v1 : Int32} {v2 : Int32} {h : Hp} {out : Int32} (O : (O_Race_wave G X h) out) (hm : s_Race_wave v0 v1 v2 h = some out) : J G X 0 [(0, .int v0), (1, .int v1), (2, .int v2)] [] h := by
  unfold s_Race_wave at hm
  refine j_sipush C 4000 dX11_wave_0 (by decide) ?_
  refine j_iload_n C 0 dX11_wave_3 rfl rfl ?_
  refine j_iload_n C 1 dX11_wave_4 rfl rfl ?_
  refine j_iadd C dX11_wave_5 ?_
  refine j_iload_n C 2 dX11_wave_6 rfl rfl ?_
  obtain ⟨c1, hm⟩ := cn_inv hm
  refine j_irem C dX11_wave_7 c1 ?_
  refine j_imul C dX11_wave_8 ?_
  refine j_iload_n C 2 dX11_wave_9 rfl rfl ?_
  obtain ⟨c2, hm⟩ := cn_inv hm
  refine j_idiv C dX11_wave_10 c2 ?_
  refine j_nmI hm (fun x3 hm => ?_)
  refine j_istore_n C [(3, .int x3), (0, .int v0), (1, .int v1), (2, .int v2)] dX11_wave_11 rfl (by decide) rfl ?_
  refine j_iload_n C 0 dX11_wave_12 rfl rfl ?_
  refine j_sipush C 2000 dX11_wave_13 (by decide) ?_
  refine j_if_icmpgt C 33 dX11_wave_16 (by decide) hm (fun hm => ?_) (fun hm => ?_)
  · refine j_iload_n C 0 dX11_wave_33 rfl rfl ?_
    refine j_sipush C 2000 dX11_wave_34 (by decide) ?_
    refine j_isub C dX11_wave_37 ?_
    refine j_sipush C 4000 dX11_wave_38 (by decide) ?_
    refine j_iload_n C 0 dX11_wave_41 rfl rfl ?_
    refine j_isub C dX11_wave_42 ?_
    refine j_imul C dX11_wave_43 ?_
    refine j_sipush C 1000 dX11_wave_44 (by decide) ?_
    refine j_idiv C dX11_wave_47 (by decide) ?_
    refine j_ineg C dX11_wave_48 ?_
    refine j_sub (L' := []) [] rfl ?_
    exact w_Race_wave_49 C O hm
  · refine j_iload_n C 0 dX11_wave_19 rfl rfl ?_
    refine j_sipush C 2000 dX11_wave_20 (by decide) ?_
    refine j_iload_n C 0 dX11_wave_23 rfl rfl ?_
    refine j_isub C dX11_wave_24 ?_
    refine j_imul C dX11_wave_25 ?_
    refine j_sipush C 1000 dX11_wave_26 (by decide) ?_
    refine j_idiv C dX11_wave_29 (by decide) ?_
    refine j_goto C 49 dX11_wave_30 (by decide) ?_
    refine j_sub (L' := []) [] rfl ?_
    exact w_Race_wave_49 C O hm
theorem c_Race_wave {G : jG} {l : Launch} {v0 : Int32} {v1 : Int32} {v2 : Int32} {h : Hp} {out : Int32} (hm : s_Race_wave v0 v1 v2 h = some out) : mt G l yX11_wave cX11_wave 4 (some .int) 1 70 [.int v0, .int v1, .int v2] h (some (.int out)) h :=
  mt_of (by decide) (Nat.le_of_ble_eq_true rfl) _ rfl (fun X I C O => w_Race_wave C O hm)
noncomputable def s_Soundings_forgetPairs (h : Hp) : Option Hp :=
  (s_Arr_fillI 77 ((0 : Int32)) h).bind fun u1 => some (sI (sI (sI (sI (sI (sI u1 74 6 ((0 : Int32))) 74 7 ((-1 : Int32))) 74 8 ((-1 : Int32))) 74 9 ((-1 : Int32))) 74 10 ((-1 : Int32))) 74 11 ((-1 : Int32)))
def O_Soundings_forgetPairs (G : jG) (X : jX) (out : Hp) : Prop := jO G X (none) none out
theorem w_Soundings_forgetPairs {G : jG} {X : jX} (C : jC G X cX5_forgetPairs 1 RX5 2 93) {h : Hp} {out : Hp} (O : (O_Soundings_forgetPairs G X) out) (hm : s_Soundings_forgetPairs h = some out) : J G X 0 [(0, .ref (G.1 + 74))] [] h := by
  unfold s_Soundings_forgetPairs at hm
  refine j_aload_n C 0 dX5_forgetPairs_0 rfl rfl ?_
  refine j_gS C f_X5_18 n_74 q_74_4 dX5_forgetPairs_1 ?_
  refine j_iconst C 0 dX5_forgetPairs_4 (by decide) ?_
  refine j_cS C l_X5_93 [.ref (G.1 + 77), .int ((0 : Int32))] [] (fun _ => none) (fun u1 => u1) (fun u1 => []) hm (fun l u hu => c_Arr_fillI hu) rfl (Nat.le_of_ble_eq_true rfl) rfl (Nat.le_of_ble_eq_true rfl) (Nat.le_of_ble_eq_true rfl) (fun _ => rfl) dX5_forgetPairs_5 (fun u1 hm => ?_)
  refine j_aload_n C 0 dX5_forgetPairs_8 rfl rfl ?_
  refine j_iconst C 0 dX5_forgetPairs_9 (by decide) ?_
  refine j_pI C f_X5_25 n_74 dX5_forgetPairs_10 ?_
  refine j_aload_n C 0 dX5_forgetPairs_13 rfl rfl ?_
  refine j_iconst C (-1 : Int32) dX5_forgetPairs_14 (by decide) ?_
  refine j_pI C f_X5_28 n_74 dX5_forgetPairs_15 ?_
  refine j_aload_n C 0 dX5_forgetPairs_18 rfl rfl ?_
  refine j_iconst C (-1 : Int32) dX5_forgetPairs_19 (by decide) ?_
  refine j_pI C f_X5_31 n_74 dX5_forgetPairs_20 ?_
  refine j_aload_n C 0 dX5_forgetPairs_23 rfl rfl ?_
  refine j_iconst C (-1 : Int32) dX5_forgetPairs_24 (by decide) ?_
  refine j_pI C f_X5_34 n_74 dX5_forgetPairs_25 ?_
  refine j_aload_n C 0 dX5_forgetPairs_28 rfl rfl ?_
  refine j_iconst C (-1 : Int32) dX5_forgetPairs_29 (by decide) ?_
  refine j_pI C f_X5_37 n_74 dX5_forgetPairs_30 ?_
  refine j_aload_n C 0 dX5_forgetPairs_33 rfl rfl ?_
  refine j_iconst C (-1 : Int32) dX5_forgetPairs_34 (by decide) ?_
  refine j_pI C f_X5_40 n_74 dX5_forgetPairs_35 ?_
  obtain rfl := Option.some.inj hm
  exact j_vret C O dX5_forgetPairs_38
theorem c_Soundings_forgetPairs {G : jG} {l : Launch} {h : Hp} {out : Hp} (hm : s_Soundings_forgetPairs h = some out) : mt G l yX5_forgetPairs cX5_forgetPairs 1 (none) 2 93 [.ref (G.1 + 74)] h none out :=
  mt_of (by decide) (Nat.le_of_ble_eq_true rfl) _ rfl (fun X I C O => w_Soundings_forgetPairs C O hm)
noncomputable def s_Soundings_keepPair_61 (v2 : Int32) (h : Hp) : Option Hp :=
  some (sI h 74 10 v2)
noncomputable def s_Soundings_keepPair_36 (v1 : Int32) (v2 : Int32) (h : Hp) : Option Hp :=
  lt (sI h 74 8 (z_max (hI h 74 8) v1)) fun h1 => if (hI h1 74 9) = ((-1 : Int32)) then
    s_Soundings_keepPair_61 v2 (sI h1 74 9 v2)
  else
    s_Soundings_keepPair_61 v2 h1
noncomputable def s_Soundings_keepPair_26 (v1 : Int32) (v2 : Int32) (h : Hp) : Option Hp :=
  s_Soundings_keepPair_36 v1 v2 (sI (sI h 74 7 v1) 74 11 v2)
noncomputable def s_Soundings_keepPair (v1 : Int32) (v2 : Int32) (h : Hp) : Option Hp :=
  lt (sI h 74 6 ((hI h 74 6) + ((1 : Int32)))) fun h1 => if (hI h1 74 7) = ((-1 : Int32)) then
    s_Soundings_keepPair_26 v1 v2 h1
  else
    if (hI h1 74 7) ≤ v1 then
      s_Soundings_keepPair_36 v1 v2 h1
    else
      s_Soundings_keepPair_26 v1 v2 h1
def O_Soundings_keepPair (G : jG) (X : jX) (out : Hp) : Prop := jO G X (none) none out
theorem w_Soundings_keepPair_61 {G : jG} {X : jX} (C : jC G X cX5_keepPair 3 RX5 1 70) {v2 : Int32} {h : Hp} {out : Hp} (O : (O_Soundings_keepPair G X) out) (hm : s_Soundings_keepPair_61 v2 h = some out) : J G X 61 [(0, .ref (G.1 + 74)), (2, .int v2)] [] h := by
  unfold s_Soundings_keepPair_61 at hm
  refine j_aload_n C 0 dX5_keepPair_61 rfl rfl ?_
  refine j_iload_n C 1 dX5_keepPair_62 rfl rfl ?_
  refine j_pI C f_X5_37 n_74 dX5_keepPair_63 ?_
  obtain rfl := Option.some.inj hm
  exact j_vret C O dX5_keepPair_66
theorem w_Soundings_keepPair_36 {G : jG} {X : jX} (C : jC G X cX5_keepPair 3 RX5 1 70) {v1 : Int32} {v2 : Int32} {h : Hp} {out : Hp} (O : (O_Soundings_keepPair G X) out) (hm : s_Soundings_keepPair_36 v1 v2 h = some out) : J G X 36 [(0, .ref (G.1 + 74)), (1, .int v1), (2, .int v2)] [] h := by
  unfold s_Soundings_keepPair_36 at hm
  refine j_aload_n C 0 dX5_keepPair_36 rfl rfl ?_
  refine j_aload_n C 0 dX5_keepPair_37 rfl rfl ?_
  refine j_gI C f_X5_31 n_74 dX5_keepPair_38 ?_
  refine j_iload_n C 1 dX5_keepPair_41 rfl rfl ?_
  refine j_mmax C wd_1203 wd_936 wd_126 wd_937 (Nat.le_of_ble_eq_true rfl) (Nat.le_of_ble_eq_true rfl) dX5_keepPair_42 ?_
  refine j_pI C f_X5_31 n_74 dX5_keepPair_45 ?_
  refine j_aload_n C 0 dX5_keepPair_48 rfl rfl ?_
  refine j_nmH hm (fun h1 hm => ?_)
  refine j_gI C f_X5_34 n_74 dX5_keepPair_49 ?_
  refine j_iconst C (-1 : Int32) dX5_keepPair_52 (by decide) ?_
  refine j_if_icmpne C 61 dX5_keepPair_53 (by decide) hm (fun hm => ?_) (fun hm => ?_)
  · refine j_aload_n C 0 dX5_keepPair_56 rfl rfl ?_
    refine j_iload_n C 2 dX5_keepPair_57 rfl rfl ?_
    refine j_pI C f_X5_34 n_74 dX5_keepPair_58 ?_
    refine j_sub (L' := [(0, .ref (G.1 + 74)), (2, .int v2)]) [0, 2] rfl ?_
    exact w_Soundings_keepPair_61 C O hm
  · refine j_sub (L' := [(0, .ref (G.1 + 74)), (2, .int v2)]) [0, 2] rfl ?_
    exact w_Soundings_keepPair_61 C O hm
theorem w_Soundings_keepPair_26 {G : jG} {X : jX} (C : jC G X cX5_keepPair 3 RX5 1 70) {v1 : Int32} {v2 : Int32} {h : Hp} {out : Hp} (O : (O_Soundings_keepPair G X) out) (hm : s_Soundings_keepPair_26 v1 v2 h = some out) : J G X 26 [(0, .ref (G.1 + 74)), (1, .int v1), (2, .int v2)] [] h := by
  unfold s_Soundings_keepPair_26 at hm
  refine j_aload_n C 0 dX5_keepPair_26 rfl rfl ?_
  refine j_iload_n C 1 dX5_keepPair_27 rfl rfl ?_
  refine j_pI C f_X5_28 n_74 dX5_keepPair_28 ?_
  refine j_aload_n C 0 dX5_keepPair_31 rfl rfl ?_
  refine j_iload_n C 2 dX5_keepPair_32 rfl rfl ?_
  refine j_pI C f_X5_40 n_74 dX5_keepPair_33 ?_
  refine j_sub (L' := [(0, .ref (G.1 + 74)), (1, .int v1), (2, .int v2)]) [0, 1, 2] rfl ?_
  exact w_Soundings_keepPair_36 C O hm
theorem w_Soundings_keepPair {G : jG} {X : jX} (C : jC G X cX5_keepPair 3 RX5 1 70) {v1 : Int32} {v2 : Int32} {h : Hp} {out : Hp} (O : (O_Soundings_keepPair G X) out) (hm : s_Soundings_keepPair v1 v2 h = some out) : J G X 0 [(0, .ref (G.1 + 74)), (1, .int v1), (2, .int v2)] [] h := by
  unfold s_Soundings_keepPair at hm
  refine j_aload_n C 0 dX5_keepPair_0 rfl rfl ?_
  refine j_dup C dX5_keepPair_1 rfl ?_
  refine j_gI C f_X5_25 n_74 dX5_keepPair_2 ?_
  refine j_iconst C 1 dX5_keepPair_5 (by decide) ?_
  refine j_iadd C dX5_keepPair_6 ?_
  refine j_pI C f_X5_25 n_74 dX5_keepPair_7 ?_
  refine j_aload_n C 0 dX5_keepPair_10 rfl rfl ?_
  refine j_nmH hm (fun h1 hm => ?_)
  refine j_gI C f_X5_28 n_74 dX5_keepPair_11 ?_
  refine j_iconst C (-1 : Int32) dX5_keepPair_14 (by decide) ?_
  refine j_if_icmpeq C 26 dX5_keepPair_15 (by decide) hm (fun hm => ?_) (fun hm => ?_)
  · refine j_sub (L' := [(0, .ref (G.1 + 74)), (1, .int v1), (2, .int v2)]) [0, 1, 2] rfl ?_
    exact w_Soundings_keepPair_26 C O hm
  · refine j_iload_n C 1 dX5_keepPair_18 rfl rfl ?_
    refine j_aload_n C 0 dX5_keepPair_19 rfl rfl ?_
    refine j_gI C f_X5_28 n_74 dX5_keepPair_20 ?_
    refine j_if_icmpge C 36 dX5_keepPair_23 (by decide) hm (fun hm => ?_) (fun hm => ?_)
    · refine j_sub (L' := [(0, .ref (G.1 + 74)), (1, .int v1), (2, .int v2)]) [0, 1, 2] rfl ?_
      exact w_Soundings_keepPair_36 C O hm
    · refine j_sub (L' := [(0, .ref (G.1 + 74)), (1, .int v1), (2, .int v2)]) [0, 1, 2] rfl ?_
      exact w_Soundings_keepPair_26 C O hm
theorem c_Soundings_keepPair {G : jG} {l : Launch} {v1 : Int32} {v2 : Int32} {h : Hp} {out : Hp} (hm : s_Soundings_keepPair v1 v2 h = some out) : mt G l yX5_keepPair cX5_keepPair 3 (none) 1 70 [.ref (G.1 + 74), .int v1, .int v2] h none out :=
  mt_of (by decide) (Nat.le_of_ble_eq_true rfl) _ rfl (fun X I C O => w_Soundings_keepPair C O hm)
