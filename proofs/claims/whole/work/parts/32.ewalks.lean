def s_EArr_fillI_5 (v0 : Nat) (v1 : Int32) (v2 : Int32) (v3 : Int32) (h : Hp) : Option ((Nat × Int32 × Int32 × Int32 × Hp) ⊕ Hp) :=
  if v3 ≤ v2 then
    some (.inr h)
  else
    e_ak h v0 0 <| ib v2 (e_ln h v0) <| some (.inl (v0, v1, (v2 + (1 : Int32)), v3, (sI h v0 (ix v2) v1)))
def s_EArr_fillI (v0 : Nat) (v1 : Int32) (h : Hp) : Option Hp :=
  e_ak h v0 0 <| lpc (fun q => s_EArr_fillI_5 q.1 q.2.1 q.2.2.1 q.2.2.2.1 q.2.2.2.2) (v0, v1, ((0 : Int32)), (nI (e_ln h v0)), h)
def O_EArr_fillI (G : jG) (X : jX) (out : Hp) : Prop := e_jO G X (none) none out
def P_EArr_fillI_5 (G : jG) (X : jX) (q : Nat × Int32 × Int32 × Int32 × Hp) : Prop := e_J G X 5 [(0, .ref (G.1 + q.1)), (1, .int q.2.1), (2, .int q.2.2.1), (3, .int q.2.2.2.1)] [] q.2.2.2.2
def O_EArr_fillI_5 (G : jG) (X : jX) (t : ((Nat × Int32 × Int32 × Int32 × Hp) ⊕ Hp)) : Prop := Sum.elim (P_EArr_fillI_5 G X) (O_EArr_fillI G X) t
theorem w_EArr_fillI_5 {G : jG} {X : jX} (C : e_jC G X cJ7_fill_53178 4 RJ7 1 70) {v0 : Nat} {v1 : Int32} {v2 : Int32} {v3 : Int32} {h : Hp} {out : ((Nat × Int32 × Int32 × Int32 × Hp) ⊕ Hp)} (O : (O_EArr_fillI_5 G X) out) (hm : s_EArr_fillI_5 v0 v1 v2 v3 h = some out) : e_J G X 5 [(0, .ref (G.1 + v0)), (1, .int v1), (2, .int v2), (3, .int v3)] [] h := by
  unfold s_EArr_fillI_5 at hm
  refine e_j_iload_n C 2 dJ7_fill_53178_5 rfl rfl ?_
  refine e_j_iload_n C 3 dJ7_fill_53178_6 rfl rfl ?_
  refine e_j_if_icmpge C 20 dJ7_fill_53178_7 (by decide) hm (fun hm => ?_) (fun hm => ?_)
  · obtain rfl := Option.some.inj hm
    exact e_j_vret C O dJ7_fill_53178_20
  · refine e_j_aload_n C 0 dJ7_fill_53178_10 rfl rfl ?_
    refine e_j_iload_n C 2 dJ7_fill_53178_11 rfl rfl ?_
    refine e_j_iload_n C 1 dJ7_fill_53178_12 rfl rfl ?_
    obtain ⟨c1, hm⟩ := e_ak_inv hm
    refine e_j_iast C c1 hm dJ7_fill_53178_13 (fun hm => ?_)
    refine e_j_iinc C 2 [(2, .int (v2 + (1 : Int32))), (0, .ref (G.1 + v0)), (1, .int v1), (3, .int v3)] dJ7_fill_53178_14 rfl (add_lit (by decide)) (by decide) rfl ?_
    refine e_j_goto C 5 dJ7_fill_53178_17 (by decide) ?_
    obtain rfl := Option.some.inj hm
    refine e_j_sub (L' := [(0, .ref (G.1 + v0)), (1, .int v1), (2, .int (v2 + (1 : Int32))), (3, .int v3)]) [1, 2, 0, 3] rfl ?_
    exact O
theorem k_EArr_fillI_5 {G : jG} {X : jX} (C : e_jC G X cJ7_fill_53178 4 RJ7 1 70) {v0 : Nat} {v1 : Int32} {v2 : Int32} {v3 : Int32} {h : Hp} {out : Hp} (O : (O_EArr_fillI G X) out) (hm : lpc (fun q => s_EArr_fillI_5 q.1 q.2.1 q.2.2.1 q.2.2.2.1 q.2.2.2.2) (v0, v1, v2, v3, h) = some out) : e_J G X 5 [(0, .ref (G.1 + v0)), (1, .int v1), (2, .int v2), (3, .int v3)] [] h :=
  lpc_ok (P := P_EArr_fillI_5 G X) (O := (O_EArr_fillI G X)) (fun q r hm O => w_EArr_fillI_5 C O hm) hm O
theorem w_EArr_fillI {G : jG} {X : jX} (C : e_jC G X cJ7_fill_53178 4 RJ7 1 70) {v0 : Nat} {v1 : Int32} {h : Hp} {out : Hp} (O : (O_EArr_fillI G X) out) (hm : s_EArr_fillI v0 v1 h = some out) : e_J G X 0 [(0, .ref (G.1 + v0)), (1, .int v1)] [] h := by
  unfold s_EArr_fillI at hm
  refine e_j_iconst C 0 dJ7_fill_53178_0 (by decide) ?_
  refine e_j_istore_n C [(2, .int ((0 : Int32))), (0, .ref (G.1 + v0)), (1, .int v1)] dJ7_fill_53178_1 rfl (by decide) rfl ?_
  refine e_j_aload_n C 1 dJ7_fill_53178_2 rfl rfl ?_
  obtain ⟨c1, hm⟩ := e_ak_inv hm
  refine e_j_alen C (nI (e_ln h v0)) c1 rfl dJ7_fill_53178_3 ?_
  refine e_j_istore_n C [(3, .int (nI (e_ln h v0))), (2, .int ((0 : Int32))), (0, .ref (G.1 + v0)), (1, .int v1)] dJ7_fill_53178_4 rfl (by decide) rfl ?_
  refine e_j_sub (L' := [(0, .ref (G.1 + v0)), (1, .int v1), (2, .int ((0 : Int32))), (3, .int (nI (e_ln h v0)))]) [2, 3, 1, 0] rfl ?_
  exact k_EArr_fillI_5 C O hm
theorem c_EArr_fillI {G : jG} {l : Launch} {v0 : Nat} {v1 : Int32} {h : Hp} {out : Hp} (hm : s_EArr_fillI v0 v1 h = some out) : e_mt G l yJ7_fill_53178 cJ7_fill_53178 4 (none) 1 70 [.ref (G.1 + v0), .int v1] h none out :=
  e_mt_of (by decide) (Nat.le_of_ble_eq_true rfl) _ rfl (fun X I C O => w_EArr_fillI C O hm)
def s_EArr_fillL_6 (v0 : Nat) (v1 : Int64) (v3 : Int32) (v4 : Int32) (h : Hp) : Option ((Nat × Int64 × Int32 × Int32 × Hp) ⊕ Hp) :=
  if v4 ≤ v3 then
    some (.inr h)
  else
    e_ak h v0 1 <| ib v3 (e_ln h v0) <| some (.inl (v0, v1, (v3 + (1 : Int32)), v4, (sL h v0 (ix v3) v1)))
def s_EArr_fillL (v0 : Nat) (v1 : Int64) (h : Hp) : Option Hp :=
  e_ak h v0 1 <| lpc (fun q => s_EArr_fillL_6 q.1 q.2.1 q.2.2.1 q.2.2.2.1 q.2.2.2.2) (v0, v1, ((0 : Int32)), (nI (e_ln h v0)), h)
def O_EArr_fillL (G : jG) (X : jX) (out : Hp) : Prop := e_jO G X (none) none out
def P_EArr_fillL_6 (G : jG) (X : jX) (q : Nat × Int64 × Int32 × Int32 × Hp) : Prop := e_J G X 6 [(0, .ref (G.1 + q.1)), (1, .long q.2.1), (3, .int q.2.2.1), (4, .int q.2.2.2.1)] [] q.2.2.2.2
def O_EArr_fillL_6 (G : jG) (X : jX) (t : ((Nat × Int64 × Int32 × Int32 × Hp) ⊕ Hp)) : Prop := Sum.elim (P_EArr_fillL_6 G X) (O_EArr_fillL G X) t
theorem w_EArr_fillL_6 {G : jG} {X : jX} (C : e_jC G X cJ7_fill_d0a16 5 RJ7 1 70) {v0 : Nat} {v1 : Int64} {v3 : Int32} {v4 : Int32} {h : Hp} {out : ((Nat × Int64 × Int32 × Int32 × Hp) ⊕ Hp)} (O : (O_EArr_fillL_6 G X) out) (hm : s_EArr_fillL_6 v0 v1 v3 v4 h = some out) : e_J G X 6 [(0, .ref (G.1 + v0)), (1, .long v1), (3, .int v3), (4, .int v4)] [] h := by
  unfold s_EArr_fillL_6 at hm
  refine e_j_iload_n C 2 dJ7_fill_d0a16_6 rfl rfl ?_
  refine e_j_iload C 3 dJ7_fill_d0a16_7 rfl ?_
  refine e_j_if_icmpge C 22 dJ7_fill_d0a16_9 (by decide) hm (fun hm => ?_) (fun hm => ?_)
  · obtain rfl := Option.some.inj hm
    exact e_j_vret C O dJ7_fill_d0a16_22
  · refine e_j_aload_n C 0 dJ7_fill_d0a16_12 rfl rfl ?_
    refine e_j_iload_n C 2 dJ7_fill_d0a16_13 rfl rfl ?_
    refine e_j_lload_n C 1 dJ7_fill_d0a16_14 rfl rfl ?_
    obtain ⟨c1, hm⟩ := e_ak_inv hm
    refine e_j_last C c1 hm dJ7_fill_d0a16_15 (fun hm => ?_)
    refine e_j_iinc C 2 [(3, .int (v3 + (1 : Int32))), (0, .ref (G.1 + v0)), (1, .long v1), (4, .int v4)] dJ7_fill_d0a16_16 rfl (add_lit (by decide)) (by decide) rfl ?_
    refine e_j_goto C 6 dJ7_fill_d0a16_19 (by decide) ?_
    obtain rfl := Option.some.inj hm
    refine e_j_sub (L' := [(0, .ref (G.1 + v0)), (1, .long v1), (3, .int (v3 + (1 : Int32))), (4, .int v4)]) [1, 2, 0, 3] rfl ?_
    exact O
theorem k_EArr_fillL_6 {G : jG} {X : jX} (C : e_jC G X cJ7_fill_d0a16 5 RJ7 1 70) {v0 : Nat} {v1 : Int64} {v3 : Int32} {v4 : Int32} {h : Hp} {out : Hp} (O : (O_EArr_fillL G X) out) (hm : lpc (fun q => s_EArr_fillL_6 q.1 q.2.1 q.2.2.1 q.2.2.2.1 q.2.2.2.2) (v0, v1, v3, v4, h) = some out) : e_J G X 6 [(0, .ref (G.1 + v0)), (1, .long v1), (3, .int v3), (4, .int v4)] [] h :=
  lpc_ok (P := P_EArr_fillL_6 G X) (O := (O_EArr_fillL G X)) (fun q r hm O => w_EArr_fillL_6 C O hm) hm O
theorem w_EArr_fillL {G : jG} {X : jX} (C : e_jC G X cJ7_fill_d0a16 5 RJ7 1 70) {v0 : Nat} {v1 : Int64} {h : Hp} {out : Hp} (O : (O_EArr_fillL G X) out) (hm : s_EArr_fillL v0 v1 h = some out) : e_J G X 0 [(0, .ref (G.1 + v0)), (1, .long v1)] [] h := by
  unfold s_EArr_fillL at hm
  refine e_j_iconst C 0 dJ7_fill_d0a16_0 (by decide) ?_
  refine e_j_istore_n C [(3, .int ((0 : Int32))), (0, .ref (G.1 + v0)), (1, .long v1)] dJ7_fill_d0a16_1 rfl (by decide) rfl ?_
  refine e_j_aload_n C 1 dJ7_fill_d0a16_2 rfl rfl ?_
  obtain ⟨c1, hm⟩ := e_ak_inv hm
  refine e_j_alenL C (nI (e_ln h v0)) c1 rfl dJ7_fill_d0a16_3 ?_
  refine e_j_istore C [(4, .int (nI (e_ln h v0))), (3, .int ((0 : Int32))), (0, .ref (G.1 + v0)), (1, .long v1)] dJ7_fill_d0a16_4 (by decide) rfl ?_
  refine e_j_sub (L' := [(0, .ref (G.1 + v0)), (1, .long v1), (3, .int ((0 : Int32))), (4, .int (nI (e_ln h v0)))]) [2, 3, 1, 0] rfl ?_
  exact k_EArr_fillL_6 C O hm
theorem c_EArr_fillL {G : jG} {l : Launch} {v0 : Nat} {v1 : Int64} {h : Hp} {out : Hp} (hm : s_EArr_fillL v0 v1 h = some out) : e_mt G l yJ7_fill_d0a16 cJ7_fill_d0a16 5 (none) 1 70 [.ref (G.1 + v0), .long v1] h none out :=
  e_mt_of (by decide) (Nat.le_of_ble_eq_true rfl) _ rfl (fun X I C O => w_EArr_fillL C O hm)
def s_EDrift_init (v0 : Nat) (v1 : Nat) (v2 : Nat) (h : Hp) : Option Hp :=
  nl ((52 : Int32)) <| lt (e_al h 1 (ix ((52 : Int32)))) fun h1 => e_ak h1 v0 100 <| lt (sR h1 v0 2 (some (e_nid h))) fun h3 => nl ((52 : Int32)) <| lt (e_al h3 1 (ix ((52 : Int32)))) fun h4 => e_ak h4 v0 100 <| lt (sR h4 v0 3 (some (e_nid h3))) fun h6 => e_ak h6 v0 100 <| lt (sR h6 v0 0 (some v1)) fun h8 => e_ak h8 v0 100 <| some (sR h8 v0 1 (some v2))
def O_EDrift_init (G : jG) (X : jX) (out : Hp) : Prop := e_jO G X (none) none out
theorem w_EDrift_init {G : jG} {X : jX} (C : e_jC G X cX0_init 3 RX0 1 70) (I : ∀ Y, X.2 = some Y → (xM Y).name = "<init>") {v0 : Nat} {v1 : Nat} {v2 : Nat} {h : Hp} {out : Hp} (O : (O_EDrift_init G X) out) (hm : s_EDrift_init v0 v1 v2 h = some out) : e_J G X 0 [(0, .ref (G.1 + v0)), (1, .ref (G.1 + v1)), (2, .ref (G.1 + v2))] [] h := by
  unfold s_EDrift_init at hm
  refine e_j_aload_n C 0 dX0_init_0 rfl rfl ?_
  refine e_j_obj C wd_553 wd_135 wd_136 (Nat.le_of_ble_eq_true rfl) (Nat.le_of_ble_eq_true rfl) dX0_init_1 ?_
  refine e_j_aload_n C 0 dX0_init_4 rfl rfl ?_
  refine e_j_bipush C 52 dX0_init_5 (by decide) ?_
  refine e_j_newaL C hm wd_389 dX0_init_7 (fun hm => ?_)
  refine e_j_nmH hm (fun h1 hm => ?_)
  obtain ⟨c2, hm⟩ := e_ak_inv hm
  refine e_j_pF C I (o := (some (e_nid h))) f_X0_11 ⟨_, _, _, rfl, rfl⟩ c2 rfl dX0_init_9 ?_
  refine e_j_aload_n C 0 dX0_init_12 rfl rfl ?_
  refine e_j_bipush C 52 dX0_init_13 (by decide) ?_
  refine e_j_nmH hm (fun h3 hm => ?_)
  refine e_j_newaL C hm wd_389 dX0_init_15 (fun hm => ?_)
  refine e_j_nmH hm (fun h4 hm => ?_)
  obtain ⟨c5, hm⟩ := e_ak_inv hm
  refine e_j_pF C I (o := (some (e_nid h3))) f_X0_15 ⟨_, _, _, rfl, rfl⟩ c5 rfl dX0_init_17 ?_
  refine e_j_aload_n C 0 dX0_init_20 rfl rfl ?_
  refine e_j_aload_n C 1 dX0_init_21 rfl rfl ?_
  refine e_j_nmH hm (fun h6 hm => ?_)
  obtain ⟨c7, hm⟩ := e_ak_inv hm
  refine e_j_pF C I (o := (some v1)) f_X0_18 ⟨_, _, _, rfl, rfl⟩ c7 rfl dX0_init_22 ?_
  refine e_j_aload_n C 0 dX0_init_25 rfl rfl ?_
  refine e_j_aload_n C 2 dX0_init_26 rfl rfl ?_
  refine e_j_nmH hm (fun h8 hm => ?_)
  obtain ⟨c9, hm⟩ := e_ak_inv hm
  refine e_j_pF C I (o := (some v2)) f_X0_22 ⟨_, _, _, rfl, rfl⟩ c9 rfl dX0_init_27 ?_
  obtain rfl := Option.some.inj hm
  exact e_j_vret C O dX0_init_30
theorem c_EDrift_init {G : jG} {l : Launch} {v0 : Nat} {v1 : Nat} {v2 : Nat} {h : Hp} {out : Hp} (hm : s_EDrift_init v0 v1 v2 h = some out) : e_mt G l yX0_init cX0_init 3 (none) 1 70 [.ref (G.1 + v0), .ref (G.1 + v1), .ref (G.1 + v2)] h none out :=
  e_mt_of (by decide) (Nat.le_of_ble_eq_true rfl) _ rfl (fun X I C O => w_EDrift_init C I O hm)
def s_ELocks_init (v0 : Nat) (v1 : Nat) (v2 : Nat) (h : Hp) : Option Hp :=
  e_ak h v0 102 <| lt (sR h v0 2 none) fun h2 => nl ((6 : Int32)) <| lt (e_al h2 0 (ix ((6 : Int32)))) fun h3 => e_ak h3 v0 102 <| lt (sR h3 v0 3 (some (e_nid h2))) fun h5 => nl ((6 : Int32)) <| lt (e_al h5 0 (ix ((6 : Int32)))) fun h6 => e_ak h6 v0 102 <| lt (sR h6 v0 4 (some (e_nid h5))) fun h8 => nl ((6 : Int32)) <| lt (e_al h8 0 (ix ((6 : Int32)))) fun h9 => e_ak h9 v0 102 <| lt (sR h9 v0 5 (some (e_nid h8))) fun h11 => nl ((6 : Int32)) <| lt (e_al h11 0 (ix ((6 : Int32)))) fun h12 => e_ak h12 v0 102 <| lt (sR h12 v0 6 (some (e_nid h11))) fun h14 => e_ak h14 v0 102 <| lt (sI h14 v0 7 ((-1 : Int32))) fun h16 => e_ak h16 v0 102 <| lt (sI h16 v0 8 ((0 : Int32))) fun h18 => e_ak h18 v0 102 <| lt (sR h18 v0 0 (some v1)) fun h20 => e_ak h20 v0 102 <| some (sR h20 v0 1 (some v2))
def O_ELocks_init (G : jG) (X : jX) (out : Hp) : Prop := e_jO G X (none) none out
theorem w_ELocks_init {G : jG} {X : jX} (C : e_jC G X cX2_init 3 RX2 1 70) (I : ∀ Y, X.2 = some Y → (xM Y).name = "<init>") {v0 : Nat} {v1 : Nat} {v2 : Nat} {h : Hp} {out : Hp} (O : (O_ELocks_init G X) out) (hm : s_ELocks_init v0 v1 v2 h = some out) : e_J G X 0 [(0, .ref (G.1 + v0)), (1, .ref (G.1 + v1)), (2, .ref (G.1 + v2))] [] h := by
  unfold s_ELocks_init at hm
  refine e_j_aload_n C 0 dX2_init_0 rfl rfl ?_
  refine e_j_obj C wd_442 wd_135 wd_136 (Nat.le_of_ble_eq_true rfl) (Nat.le_of_ble_eq_true rfl) dX2_init_1 ?_
  refine e_j_aload_n C 0 dX2_init_4 rfl rfl ?_
  refine e_j_null C dX2_init_5 ?_
  obtain ⟨c1, hm⟩ := e_ak_inv hm
  refine e_j_pR C (o := none) f_X2_9 c1 rfl dX2_init_6 ?_
  refine e_j_aload_n C 0 dX2_init_9 rfl rfl ?_
  refine e_j_bipush C 6 dX2_init_10 (by decide) ?_
  refine e_j_nmH hm (fun h2 hm => ?_)
  refine e_j_newaI C hm wd_255 dX2_init_12 (fun hm => ?_)
  refine e_j_nmH hm (fun h3 hm => ?_)
  obtain ⟨c4, hm⟩ := e_ak_inv hm
  refine e_j_pF C I (o := (some (e_nid h2))) f_X2_15 ⟨_, _, _, rfl, rfl⟩ c4 rfl dX2_init_14 ?_
  refine e_j_aload_n C 0 dX2_init_17 rfl rfl ?_
  refine e_j_bipush C 6 dX2_init_18 (by decide) ?_
  refine e_j_nmH hm (fun h5 hm => ?_)
  refine e_j_newaI C hm wd_255 dX2_init_20 (fun hm => ?_)
  refine e_j_nmH hm (fun h6 hm => ?_)
  obtain ⟨c7, hm⟩ := e_ak_inv hm
  refine e_j_pF C I (o := (some (e_nid h5))) f_X2_18 ⟨_, _, _, rfl, rfl⟩ c7 rfl dX2_init_22 ?_
  refine e_j_aload_n C 0 dX2_init_25 rfl rfl ?_
  refine e_j_bipush C 6 dX2_init_26 (by decide) ?_
  refine e_j_nmH hm (fun h8 hm => ?_)
  refine e_j_newaI C hm wd_255 dX2_init_28 (fun hm => ?_)
  refine e_j_nmH hm (fun h9 hm => ?_)
  obtain ⟨c10, hm⟩ := e_ak_inv hm
  refine e_j_pF C I (o := (some (e_nid h8))) f_X2_21 ⟨_, _, _, rfl, rfl⟩ c10 rfl dX2_init_30 ?_
  refine e_j_aload_n C 0 dX2_init_33 rfl rfl ?_
  refine e_j_bipush C 6 dX2_init_34 (by decide) ?_
  refine e_j_nmH hm (fun h11 hm => ?_)
  refine e_j_newaI C hm wd_255 dX2_init_36 (fun hm => ?_)
  refine e_j_nmH hm (fun h12 hm => ?_)
  obtain ⟨c13, hm⟩ := e_ak_inv hm
  refine e_j_pF C I (o := (some (e_nid h11))) f_X2_24 ⟨_, _, _, rfl, rfl⟩ c13 rfl dX2_init_38 ?_
  refine e_j_aload_n C 0 dX2_init_41 rfl rfl ?_
  refine e_j_iconst C (-1 : Int32) dX2_init_42 (by decide) ?_
  refine e_j_nmH hm (fun h14 hm => ?_)
  obtain ⟨c15, hm⟩ := e_ak_inv hm
  refine e_j_pI C f_X2_27 c15 dX2_init_43 ?_
  refine e_j_aload_n C 0 dX2_init_46 rfl rfl ?_
  refine e_j_iconst C 0 dX2_init_47 (by decide) ?_
  refine e_j_nmH hm (fun h16 hm => ?_)
  obtain ⟨c17, hm⟩ := e_ak_inv hm
  refine e_j_pZ C f_X2_31 c17 (by decide) dX2_init_48 ?_
  refine e_j_aload_n C 0 dX2_init_51 rfl rfl ?_
  refine e_j_aload_n C 1 dX2_init_52 rfl rfl ?_
  refine e_j_nmH hm (fun h18 hm => ?_)
  obtain ⟨c19, hm⟩ := e_ak_inv hm
  refine e_j_pF C I (o := (some v1)) f_X2_35 ⟨_, _, _, rfl, rfl⟩ c19 rfl dX2_init_53 ?_
  refine e_j_aload_n C 0 dX2_init_56 rfl rfl ?_
  refine e_j_aload_n C 2 dX2_init_57 rfl rfl ?_
  refine e_j_nmH hm (fun h20 hm => ?_)
  obtain ⟨c21, hm⟩ := e_ak_inv hm
  refine e_j_pF C I (o := (some v2)) f_X2_39 ⟨_, _, _, rfl, rfl⟩ c21 rfl dX2_init_58 ?_
  obtain rfl := Option.some.inj hm
  exact e_j_vret C O dX2_init_61
theorem c_ELocks_init {G : jG} {l : Launch} {v0 : Nat} {v1 : Nat} {v2 : Nat} {h : Hp} {out : Hp} (hm : s_ELocks_init v0 v1 v2 h = some out) : e_mt G l yX2_init cX2_init 3 (none) 1 70 [.ref (G.1 + v0), .ref (G.1 + v1), .ref (G.1 + v2)] h none out :=
  e_mt_of (by decide) (Nat.le_of_ble_eq_true rfl) _ rfl (fun X I C O => w_ELocks_init C I O hm)
def s_EMod_init_772 (v0 : Nat) (v1 : Int32) (h : Hp) : Option ((Nat × Int32 × Hp) ⊕ Hp) :=
  if ((50 : Int32)) ≤ v1 then
    e_ak h v0 112 <| nn (e_rf h v0 3) fun r2 => e_ak h r2 0 <| ib ((190 : Int32)) (e_ln h r2) <| some (.inr (sI h r2 (ix ((190 : Int32))) ((-1 : Int32))))
  else
    e_ak h v0 112 <| nn (e_rf h v0 3) fun r5 => e_ak h r5 0 <| ib (((41 : Int32)) + v1) (e_ln h r5) <| some (.inl (v0, (v1 + (1 : Int32)), (sI h r5 (ix (((41 : Int32)) + v1)) ((1 : Int32)))))
def s_EMod_init_662 (v0 : Nat) (v1 : Int32) (h : Hp) : Option ((Nat × Int32 × Hp) ⊕ Hp) :=
  if ((8 : Int32)) ≤ v1 then
    e_ak h v0 112 <| nn (e_rf h v0 3) fun r2 => e_ak h r2 0 <| ib ((30 : Int32)) (e_ln h r2) <| lt (sI h r2 (ix ((30 : Int32))) ((8 : Int32))) fun h4 => e_ak h4 v0 112 <| nn (e_rf h4 v0 3) fun r6 => e_ak h4 r6 0 <| ib ((31 : Int32)) (e_ln h4 r6) <| lt (sI h4 r6 (ix ((31 : Int32))) ((10 : Int32))) fun h8 => e_ak h8 v0 112 <| nn (e_rf h8 v0 3) fun r10 => e_ak h8 r10 0 <| ib ((32 : Int32)) (e_ln h8 r10) <| lt (sI h8 r10 (ix ((32 : Int32))) ((40 : Int32))) fun h12 => e_ak h12 v0 112 <| nn (e_rf h12 v0 3) fun r14 => e_ak h12 r14 0 <| ib ((33 : Int32)) (e_ln h12 r14) <| lt (sI h12 r14 (ix ((33 : Int32))) ((50 : Int32))) fun h16 => e_ak h16 v0 112 <| nn (e_rf h16 v0 3) fun r18 => e_ak h16 r18 0 <| ib ((35 : Int32)) (e_ln h16 r18) <| lt (sI h16 r18 (ix ((35 : Int32))) ((20 : Int32))) fun h20 => e_ak h20 v0 112 <| nn (e_rf h20 v0 3) fun r22 => e_ak h20 r22 0 <| ib ((36 : Int32)) (e_ln h20 r22) <| lt (sI h20 r22 (ix ((36 : Int32))) ((100 : Int32))) fun h24 => e_ak h24 v0 112 <| nn (e_rf h24 v0 3) fun r26 => e_ak h24 r26 0 <| ib ((37 : Int32)) (e_ln h24 r26) <| lt (sI h24 r26 (ix ((37 : Int32))) ((2 : Int32))) fun h28 => e_ak h28 v0 112 <| nn (e_rf h28 v0 3) fun r30 => e_ak h28 r30 0 <| ib ((38 : Int32)) (e_ln h28 r30) <| lt (sI h28 r30 (ix ((38 : Int32))) ((5 : Int32))) fun h32 => e_ak h32 v0 112 <| nn (e_rf h32 v0 3) fun r34 => e_ak h32 r34 0 <| ib ((40 : Int32)) (e_ln h32 r34) <| inr (lpc (fun q => s_EMod_init_772 q.1 q.2.1 q.2.2) (v0, ((0 : Int32)), (sI h32 r34 (ix ((40 : Int32))) ((1013 : Int32)))))
  else
    e_ak h v0 112 <| nn (e_rf h v0 3) fun r37 => e_ak h r37 0 <| ib ((((6 : Int32)) + (((3 : Int32)) * v1)) + ((1 : Int32))) (e_ln h r37) <| some (.inl (v0, (v1 + (1 : Int32)), (sI h r37 (ix ((((6 : Int32)) + (((3 : Int32)) * v1)) + ((1 : Int32)))) ((720 : Int32)))))
def s_EMod_init_593 (v0 : Nat) (h : Hp) : Option Hp :=
  nl ((6 : Int32)) <| lt (e_al h 0 (ix ((6 : Int32)))) fun h1 => e_ak h1 v0 112 <| lt (sR h1 v0 36 (some (e_nid h))) fun h3 => nl ((6 : Int32)) <| lt (e_al h3 0 (ix ((6 : Int32)))) fun h4 => e_ak h4 v0 112 <| lt (sR h4 v0 37 (some (e_nid h3))) fun h6 => nl ((12 : Int32)) <| lt (e_al h6 0 (ix ((12 : Int32)))) fun h7 => e_ak h7 v0 112 <| lt (sR h7 v0 45 (some (e_nid h6))) fun h9 => nl ((1440 : Int32)) <| lt (e_al h9 0 (ix ((1440 : Int32)))) fun h10 => e_ak h10 v0 112 <| lt (sR h10 v0 46 (some (e_nid h9))) fun h12 => nl ((1440 : Int32)) <| lt (e_al h12 0 (ix ((1440 : Int32)))) fun h13 => e_ak h13 v0 112 <| lt (sR h13 v0 47 (some (e_nid h12))) fun h15 => nl ((52 : Int32)) <| lt (e_al h15 1 (ix ((52 : Int32)))) fun h16 => e_ak h16 v0 112 <| lt (sR h16 v0 48 (some (e_nid h15))) fun h18 => nl ((52 : Int32)) <| lt (e_al h18 1 (ix ((52 : Int32)))) fun h19 => e_ak h19 v0 112 <| lt (sR h19 v0 49 (some (e_nid h18))) fun h21 => nl ((1440 : Int32)) <| lt (e_al h21 0 (ix ((1440 : Int32)))) fun h22 => e_ak h22 v0 112 <| lpc (fun q => s_EMod_init_662 q.1 q.2.1 q.2.2) (v0, ((0 : Int32)), (sR h22 v0 50 (some (e_nid h21))))
def s_EMod_init_503 (v0 : Nat) (h : Hp) : Option Hp :=
  nl ((24 : Int32)) <| lt (e_al h 0 (ix ((24 : Int32)))) fun h1 => e_ak h1 v0 112 <| lt (sR h1 v0 25 (some (e_nid h))) fun h3 => nl ((1440 : Int32)) <| lt (e_al h3 0 (ix ((1440 : Int32)))) fun h4 => e_ak h4 v0 112 <| lt (sR h4 v0 26 (some (e_nid h3))) fun h6 => nl ((1440 : Int32)) <| lt (e_al h6 0 (ix ((1440 : Int32)))) fun h7 => e_ak h7 v0 112 <| lt (sR h7 v0 27 (some (e_nid h6))) fun h9 => e_ak h9 v0 112 <| lt (sI h9 v0 28 ((-1 : Int32))) fun h11 => nl ((8640 : Int32)) <| lt (e_al h11 3 (ix ((8640 : Int32)))) fun h12 => e_ak h12 v0 112 <| lt (sR h12 v0 29 (some (e_nid h11))) fun h14 => nl ((7200 : Int32)) <| lt (e_al h14 2 (ix ((7200 : Int32)))) fun h15 => e_ak h15 v0 112 <| lt (sR h15 v0 30 (some (e_nid h14))) fun h17 => nl ((7200 : Int32)) <| lt (e_al h17 2 (ix ((7200 : Int32)))) fun h18 => e_ak h18 v0 112 <| lt (sR h18 v0 31 (some (e_nid h17))) fun h20 => nl ((50 : Int32)) <| lt (e_al h20 0 (ix ((50 : Int32)))) fun h21 => e_ak h21 v0 112 <| lt (sR h21 v0 32 (some (e_nid h20))) fun h23 => nl ((50 : Int32)) <| lt (e_al h23 0 (ix ((50 : Int32)))) fun h24 => e_ak h24 v0 112 <| lt (sR h24 v0 33 (some (e_nid h23))) fun h26 => nl ((6 : Int32)) <| lt (e_al h26 0 (ix ((6 : Int32)))) fun h27 => e_ak h27 v0 112 <| lt (sR h27 v0 34 (some (e_nid h26))) fun h29 => nl ((6 : Int32)) <| lt (e_al h29 0 (ix ((6 : Int32)))) fun h30 => e_ak h30 v0 112 <| s_EMod_init_593 v0 (sR h30 v0 35 (some (e_nid h29)))
def s_EMod_init_426 (v0 : Nat) (s0 : Nat) (s1 : Nat) (h : Hp) : Option Hp :=
  e_ak h s0 3 <| ib ((65 : Int32)) (e_ln h s0) <| lt (sI h s0 (ix ((65 : Int32))) (z_nb ((101 : Int32)))) fun h2 => e_ak h2 s0 3 <| ib ((66 : Int32)) (e_ln h2 s0) <| lt (sI h2 s0 (ix ((66 : Int32))) (z_nb ((115 : Int32)))) fun h4 => e_ak h4 s0 3 <| ib ((67 : Int32)) (e_ln h4 s0) <| lt (sI h4 s0 (ix ((67 : Int32))) (z_nb ((32 : Int32)))) fun h6 => e_ak h6 s1 112 <| lt (sR h6 s1 7 (some s0)) fun h8 => nl ((400 : Int32)) <| lt (e_al h8 3 (ix ((400 : Int32)))) fun h9 => e_ak h9 v0 112 <| lt (sR h9 v0 8 (some (e_nid h8))) fun h11 => nl ((5 : Int32)) <| lt (e_al h11 0 (ix ((5 : Int32)))) fun h12 => e_ak h12 v0 112 <| lt (sR h12 v0 9 (some (e_nid h11))) fun h14 => e_ak h14 v0 112 <| lt (sI h14 v0 11 ((-1 : Int32))) fun h16 => nl ((401 : Int32)) <| lt (e_al h16 0 (ix ((401 : Int32)))) fun h17 => e_ak h17 v0 112 <| lt (sR h17 v0 12 (some (e_nid h16))) fun h19 => nl ((401 : Int32)) <| lt (e_al h19 0 (ix ((401 : Int32)))) fun h20 => e_ak h20 v0 112 <| lt (sR h20 v0 13 (some (e_nid h19))) fun h22 => nl ((401 : Int32)) <| lt (e_al h22 0 (ix ((401 : Int32)))) fun h23 => e_ak h23 v0 112 <| lt (sR h23 v0 14 (some (e_nid h22))) fun h25 => nl ((7 : Int32)) <| lt (e_al h25 0 (ix ((7 : Int32)))) fun h26 => e_ak h26 v0 112 <| s_EMod_init_503 v0 (sR h26 v0 22 (some (e_nid h25)))
def s_EMod_init_366 (v0 : Nat) (s0 : Nat) (s1 : Nat) (h : Hp) : Option Hp :=
  e_ak h s0 3 <| ib ((55 : Int32)) (e_ln h s0) <| lt (sI h s0 (ix ((55 : Int32))) (z_nb ((105 : Int32)))) fun h2 => e_ak h2 s0 3 <| ib ((56 : Int32)) (e_ln h2 s0) <| lt (sI h2 s0 (ix ((56 : Int32))) (z_nb ((110 : Int32)))) fun h4 => e_ak h4 s0 3 <| ib ((57 : Int32)) (e_ln h4 s0) <| lt (sI h4 s0 (ix ((57 : Int32))) (z_nb ((100 : Int32)))) fun h6 => e_ak h6 s0 3 <| ib ((58 : Int32)) (e_ln h6 s0) <| lt (sI h6 s0 (ix ((58 : Int32))) (z_nb ((32 : Int32)))) fun h8 => e_ak h8 s0 3 <| ib ((59 : Int32)) (e_ln h8 s0) <| lt (sI h8 s0 (ix ((59 : Int32))) (z_nb ((116 : Int32)))) fun h10 => e_ak h10 s0 3 <| ib ((60 : Int32)) (e_ln h10 s0) <| lt (sI h10 s0 (ix ((60 : Int32))) (z_nb ((117 : Int32)))) fun h12 => e_ak h12 s0 3 <| ib ((61 : Int32)) (e_ln h12 s0) <| lt (sI h12 s0 (ix ((61 : Int32))) (z_nb ((114 : Int32)))) fun h14 => e_ak h14 s0 3 <| ib ((62 : Int32)) (e_ln h14 s0) <| lt (sI h14 s0 (ix ((62 : Int32))) (z_nb ((98 : Int32)))) fun h16 => e_ak h16 s0 3 <| ib ((63 : Int32)) (e_ln h16 s0) <| lt (sI h16 s0 (ix ((63 : Int32))) (z_nb ((105 : Int32)))) fun h18 => e_ak h18 s0 3 <| ib ((64 : Int32)) (e_ln h18 s0) <| s_EMod_init_426 v0 s0 s1 (sI h18 s0 (ix ((64 : Int32))) (z_nb ((110 : Int32))))
def s_EMod_init_306 (v0 : Nat) (s0 : Nat) (s1 : Nat) (h : Hp) : Option Hp :=
  e_ak h s0 3 <| ib ((45 : Int32)) (e_ln h s0) <| lt (sI h s0 (ix ((45 : Int32))) (z_nb ((110 : Int32)))) fun h2 => e_ak h2 s0 3 <| ib ((46 : Int32)) (e_ln h2 s0) <| lt (sI h2 s0 (ix ((46 : Int32))) (z_nb ((100 : Int32)))) fun h4 => e_ak h4 s0 3 <| ib ((47 : Int32)) (e_ln h4 s0) <| lt (sI h4 s0 (ix ((47 : Int32))) (z_nb ((32 : Int32)))) fun h6 => e_ak h6 s0 3 <| ib ((48 : Int32)) (e_ln h6 s0) <| lt (sI h6 s0 (ix ((48 : Int32))) (z_nb ((103 : Int32)))) fun h8 => e_ak h8 s0 3 <| ib ((49 : Int32)) (e_ln h8 s0) <| lt (sI h8 s0 (ix ((49 : Int32))) (z_nb ((108 : Int32)))) fun h10 => e_ak h10 s0 3 <| ib ((50 : Int32)) (e_ln h10 s0) <| lt (sI h10 s0 (ix ((50 : Int32))) (z_nb ((97 : Int32)))) fun h12 => e_ak h12 s0 3 <| ib ((51 : Int32)) (e_ln h12 s0) <| lt (sI h12 s0 (ix ((51 : Int32))) (z_nb ((115 : Int32)))) fun h14 => e_ak h14 s0 3 <| ib ((52 : Int32)) (e_ln h14 s0) <| lt (sI h14 s0 (ix ((52 : Int32))) (z_nb ((115 : Int32)))) fun h16 => e_ak h16 s0 3 <| ib ((53 : Int32)) (e_ln h16 s0) <| lt (sI h16 s0 (ix ((53 : Int32))) (z_nb ((32 : Int32)))) fun h18 => e_ak h18 s0 3 <| ib ((54 : Int32)) (e_ln h18 s0) <| s_EMod_init_366 v0 s0 s1 (sI h18 s0 (ix ((54 : Int32))) (z_nb ((107 : Int32))))
def s_EMod_init_246 (v0 : Nat) (s0 : Nat) (s1 : Nat) (h : Hp) : Option Hp :=
  e_ak h s0 3 <| ib ((35 : Int32)) (e_ln h s0) <| lt (sI h s0 (ix ((35 : Int32))) (z_nb ((32 : Int32)))) fun h2 => e_ak h2 s0 3 <| ib ((36 : Int32)) (e_ln h2 s0) <| lt (sI h2 s0 (ix ((36 : Int32))) (z_nb ((109 : Int32)))) fun h4 => e_ak h4 s0 3 <| ib ((37 : Int32)) (e_ln h4 s0) <| lt (sI h4 s0 (ix ((37 : Int32))) (z_nb ((105 : Int32)))) fun h6 => e_ak h6 s0 3 <| ib ((38 : Int32)) (e_ln h6 s0) <| lt (sI h6 s0 (ix ((38 : Int32))) (z_nb ((110 : Int32)))) fun h8 => e_ak h8 s0 3 <| ib ((39 : Int32)) (e_ln h8 s0) <| lt (sI h8 s0 (ix ((39 : Int32))) (z_nb ((117 : Int32)))) fun h10 => e_ak h10 s0 3 <| ib ((40 : Int32)) (e_ln h10 s0) <| lt (sI h10 s0 (ix ((40 : Int32))) (z_nb ((116 : Int32)))) fun h12 => e_ak h12 s0 3 <| ib ((41 : Int32)) (e_ln h12 s0) <| lt (sI h12 s0 (ix ((41 : Int32))) (z_nb ((101 : Int32)))) fun h14 => e_ak h14 s0 3 <| ib ((42 : Int32)) (e_ln h14 s0) <| lt (sI h14 s0 (ix ((42 : Int32))) (z_nb ((32 : Int32)))) fun h16 => e_ak h16 s0 3 <| ib ((43 : Int32)) (e_ln h16 s0) <| lt (sI h16 s0 (ix ((43 : Int32))) (z_nb ((119 : Int32)))) fun h18 => e_ak h18 s0 3 <| ib ((44 : Int32)) (e_ln h18 s0) <| s_EMod_init_306 v0 s0 s1 (sI h18 s0 (ix ((44 : Int32))) (z_nb ((105 : Int32))))
def s_EMod_init_186 (v0 : Nat) (s0 : Nat) (s1 : Nat) (h : Hp) : Option Hp :=
  e_ak h s0 3 <| ib ((25 : Int32)) (e_ln h s0) <| lt (sI h s0 (ix ((25 : Int32))) (z_nb ((32 : Int32)))) fun h2 => e_ak h2 s0 3 <| ib ((26 : Int32)) (e_ln h2 s0) <| lt (sI h2 s0 (ix ((26 : Int32))) (z_nb ((102 : Int32)))) fun h4 => e_ak h4 s0 3 <| ib ((27 : Int32)) (e_ln h4 s0) <| lt (sI h4 s0 (ix ((27 : Int32))) (z_nb ((97 : Int32)))) fun h6 => e_ak h6 s0 3 <| ib ((28 : Int32)) (e_ln h6 s0) <| lt (sI h6 s0 (ix ((28 : Int32))) (z_nb ((108 : Int32)))) fun h8 => e_ak h8 s0 3 <| ib ((29 : Int32)) (e_ln h8 s0) <| lt (sI h8 s0 (ix ((29 : Int32))) (z_nb ((108 : Int32)))) fun h10 => e_ak h10 s0 3 <| ib ((30 : Int32)) (e_ln h10 s0) <| lt (sI h10 s0 (ix ((30 : Int32))) (z_nb ((32 : Int32)))) fun h12 => e_ak h12 s0 3 <| ib ((31 : Int32)) (e_ln h12 s0) <| lt (sI h12 s0 (ix ((31 : Int32))) (z_nb ((102 : Int32)))) fun h14 => e_ak h14 s0 3 <| ib ((32 : Int32)) (e_ln h14 s0) <| lt (sI h14 s0 (ix ((32 : Int32))) (z_nb ((108 : Int32)))) fun h16 => e_ak h16 s0 3 <| ib ((33 : Int32)) (e_ln h16 s0) <| lt (sI h16 s0 (ix ((33 : Int32))) (z_nb ((111 : Int32)))) fun h18 => e_ak h18 s0 3 <| ib ((34 : Int32)) (e_ln h18 s0) <| s_EMod_init_246 v0 s0 s1 (sI h18 s0 (ix ((34 : Int32))) (z_nb ((119 : Int32))))
def s_EMod_init_126 (v0 : Nat) (s0 : Nat) (s1 : Nat) (h : Hp) : Option Hp :=
  e_ak h s0 3 <| ib ((15 : Int32)) (e_ln h s0) <| lt (sI h s0 (ix ((15 : Int32))) (z_nb ((111 : Int32)))) fun h2 => e_ak h2 s0 3 <| ib ((16 : Int32)) (e_ln h2 s0) <| lt (sI h2 s0 (ix ((16 : Int32))) (z_nb ((114 : Int32)))) fun h4 => e_ak h4 s0 3 <| ib ((17 : Int32)) (e_ln h4 s0) <| lt (sI h4 s0 (ix ((17 : Int32))) (z_nb ((32 : Int32)))) fun h6 => e_ak h6 s0 3 <| ib ((18 : Int32)) (e_ln h6 s0) <| lt (sI h6 s0 (ix ((18 : Int32))) (z_nb ((97 : Int32)))) fun h8 => e_ak h8 s0 3 <| ib ((19 : Int32)) (e_ln h8 s0) <| lt (sI h8 s0 (ix ((19 : Int32))) (z_nb ((110 : Int32)))) fun h10 => e_ak h10 s0 3 <| ib ((20 : Int32)) (e_ln h10 s0) <| lt (sI h10 s0 (ix ((20 : Int32))) (z_nb ((100 : Int32)))) fun h12 => e_ak h12 s0 3 <| ib ((21 : Int32)) (e_ln h12 s0) <| lt (sI h12 s0 (ix ((21 : Int32))) (z_nb ((32 : Int32)))) fun h14 => e_ak h14 s0 3 <| ib ((22 : Int32)) (e_ln h14 s0) <| lt (sI h14 s0 (ix ((22 : Int32))) (z_nb ((110 : Int32)))) fun h16 => e_ak h16 s0 3 <| ib ((23 : Int32)) (e_ln h16 s0) <| lt (sI h16 s0 (ix ((23 : Int32))) (z_nb ((111 : Int32)))) fun h18 => e_ak h18 s0 3 <| ib ((24 : Int32)) (e_ln h18 s0) <| s_EMod_init_186 v0 s0 s1 (sI h18 s0 (ix ((24 : Int32))) (z_nb ((116 : Int32))))
def s_EMod_init_67 (v0 : Nat) (s0 : Nat) (s1 : Nat) (h : Hp) : Option Hp :=
  e_ak h s0 3 <| ib ((5 : Int32)) (e_ln h s0) <| lt (sI h s0 (ix ((5 : Int32))) (z_nb ((32 : Int32)))) fun h2 => e_ak h2 s0 3 <| ib ((6 : Int32)) (e_ln h2 s0) <| lt (sI h2 s0 (ix ((6 : Int32))) (z_nb ((119 : Int32)))) fun h4 => e_ak h4 s0 3 <| ib ((7 : Int32)) (e_ln h4 s0) <| lt (sI h4 s0 (ix ((7 : Int32))) (z_nb ((104 : Int32)))) fun h6 => e_ak h6 s0 3 <| ib ((8 : Int32)) (e_ln h6 s0) <| lt (sI h6 s0 (ix ((8 : Int32))) (z_nb ((105 : Int32)))) fun h8 => e_ak h8 s0 3 <| ib ((9 : Int32)) (e_ln h8 s0) <| lt (sI h8 s0 (ix ((9 : Int32))) (z_nb ((116 : Int32)))) fun h10 => e_ak h10 s0 3 <| ib ((10 : Int32)) (e_ln h10 s0) <| lt (sI h10 s0 (ix ((10 : Int32))) (z_nb ((101 : Int32)))) fun h12 => e_ak h12 s0 3 <| ib ((11 : Int32)) (e_ln h12 s0) <| lt (sI h12 s0 (ix ((11 : Int32))) (z_nb ((32 : Int32)))) fun h14 => e_ak h14 s0 3 <| ib ((12 : Int32)) (e_ln h14 s0) <| lt (sI h14 s0 (ix ((12 : Int32))) (z_nb ((105 : Int32)))) fun h16 => e_ak h16 s0 3 <| ib ((13 : Int32)) (e_ln h16 s0) <| lt (sI h16 s0 (ix ((13 : Int32))) (z_nb ((102 : Int32)))) fun h18 => e_ak h18 s0 3 <| ib ((14 : Int32)) (e_ln h18 s0) <| s_EMod_init_126 v0 s0 s1 (sI h18 s0 (ix ((14 : Int32))) (z_nb ((32 : Int32))))
def s_EMod_init (v0 : Nat) (h : Hp) : Option Hp :=
  nl ((7 : Int32)) <| lt (e_al h 0 (ix ((7 : Int32)))) fun h1 => e_ak h1 v0 112 <| lt (sR h1 v0 2 (some (e_nid h))) fun h3 => nl ((4998 : Int32)) <| lt (e_al h3 0 (ix ((4998 : Int32)))) fun h4 => e_ak h4 v0 112 <| lt (sR h4 v0 3 (some (e_nid h3))) fun h6 => nl ((9996 : Int32)) <| lt (e_al h6 0 (ix ((9996 : Int32)))) fun h7 => e_ak h7 v0 112 <| lt (sR h7 v0 4 (some (e_nid h6))) fun h9 => nl ((2 : Int32)) <| lt (e_al h9 2 (ix ((2 : Int32)))) fun h10 => e_ak h10 v0 112 <| lt (sR h10 v0 5 (some (e_nid h9))) fun h12 => nl ((68 : Int32)) <| lt (e_al h12 3 (ix ((68 : Int32)))) fun h13 => e_ak h13 (e_nid h12) 3 <| ib ((0 : Int32)) (e_ln h13 (e_nid h12)) <| lt (sI h13 (e_nid h12) (ix ((0 : Int32))) (z_nb ((103 : Int32)))) fun h15 => e_ak h15 (e_nid h12) 3 <| ib ((1 : Int32)) (e_ln h15 (e_nid h12)) <| lt (sI h15 (e_nid h12) (ix ((1 : Int32))) (z_nb ((97 : Int32)))) fun h17 => e_ak h17 (e_nid h12) 3 <| ib ((2 : Int32)) (e_ln h17 (e_nid h12)) <| lt (sI h17 (e_nid h12) (ix ((2 : Int32))) (z_nb ((105 : Int32)))) fun h19 => e_ak h19 (e_nid h12) 3 <| ib ((3 : Int32)) (e_ln h19 (e_nid h12)) <| lt (sI h19 (e_nid h12) (ix ((3 : Int32))) (z_nb ((110 : Int32)))) fun h21 => e_ak h21 (e_nid h12) 3 <| ib ((4 : Int32)) (e_ln h21 (e_nid h12)) <| s_EMod_init_67 v0 (e_nid h12) v0 (sI h21 (e_nid h12) (ix ((4 : Int32))) (z_nb ((115 : Int32))))
def O_EMod_init (G : jG) (X : jX) (out : Hp) : Prop := e_jO G X (none) none out
def P_EMod_init_662 (G : jG) (X : jX) (q : Nat × Int32 × Hp) : Prop := e_J G X 662 [(0, .ref (G.1 + q.1)), (1, .int q.2.1)] [] q.2.2
def O_EMod_init_662 (G : jG) (X : jX) (t : ((Nat × Int32 × Hp) ⊕ Hp)) : Prop := Sum.elim (P_EMod_init_662 G X) (O_EMod_init G X) t
def P_EMod_init_772 (G : jG) (X : jX) (q : Nat × Int32 × Hp) : Prop := e_J G X 772 [(0, .ref (G.1 + q.1)), (1, .int q.2.1)] [] q.2.2
def O_EMod_init_772 (G : jG) (X : jX) (t : ((Nat × Int32 × Hp) ⊕ Hp)) : Prop := Sum.elim (P_EMod_init_772 G X) (O_EMod_init G X) t
theorem w_EMod_init_772 {G : jG} {X : jX} (C : e_jC G X cX12_init 2 RX12 1 70) (I : ∀ Y, X.2 = some Y → (xM Y).name = "<init>") {v0 : Nat} {v1 : Int32} {h : Hp} {out : ((Nat × Int32 × Hp) ⊕ Hp)} (O : (O_EMod_init_772 G X) out) (hm : s_EMod_init_772 v0 v1 h = some out) : e_J G X 772 [(0, .ref (G.1 + v0)), (1, .int v1)] [] h := by
  unfold s_EMod_init_772 at hm
  refine e_j_iload_n C 1 dX12_init_772 rfl rfl ?_
  refine e_j_bipush C 50 dX12_init_773 (by decide) ?_
  refine e_j_if_icmpge C 794 dX12_init_775 (by decide) hm (fun hm => ?_) (fun hm => ?_)
  · refine e_j_aload_n C 0 dX12_init_794 rfl rfl ?_
    obtain ⟨c1, hm⟩ := e_ak_inv hm
    refine e_j_gN C f_X12_20 c1 hm dX12_init_795 (fun r2 hm => ?_)
    refine e_j_sipush C 190 dX12_init_798 (by decide) ?_
    refine e_j_iconst C (-1 : Int32) dX12_init_801 (by decide) ?_
    obtain ⟨c3, hm⟩ := e_ak_inv hm
    refine e_j_iast C c3 hm dX12_init_802 (fun hm => ?_)
    obtain rfl := Option.some.inj hm
    exact e_j_vret C O dX12_init_803
  · refine e_j_aload_n C 0 dX12_init_778 rfl rfl ?_
    obtain ⟨c4, hm⟩ := e_ak_inv hm
    refine e_j_gN C f_X12_20 c4 hm dX12_init_779 (fun r5 hm => ?_)
    refine e_j_bipush C 41 dX12_init_782 (by decide) ?_
    refine e_j_iload_n C 1 dX12_init_784 rfl rfl ?_
    refine e_j_iadd C dX12_init_785 ?_
    refine e_j_iconst C 1 dX12_init_786 (by decide) ?_
    obtain ⟨c6, hm⟩ := e_ak_inv hm
    refine e_j_iast C c6 hm dX12_init_787 (fun hm => ?_)
    refine e_j_iinc C 1 [(1, .int (v1 + (1 : Int32))), (0, .ref (G.1 + v0))] dX12_init_788 rfl (add_lit (by decide)) (by decide) rfl ?_
    refine e_j_goto C 772 dX12_init_791 (by decide) ?_
    obtain rfl := Option.some.inj hm
    refine e_j_sub (L' := [(0, .ref (G.1 + v0)), (1, .int (v1 + (1 : Int32)))]) [1, 0] rfl ?_
    exact O
theorem k_EMod_init_772 {G : jG} {X : jX} (C : e_jC G X cX12_init 2 RX12 1 70) (I : ∀ Y, X.2 = some Y → (xM Y).name = "<init>") {v0 : Nat} {v1 : Int32} {h : Hp} {out : Hp} (O : (O_EMod_init G X) out) (hm : lpc (fun q => s_EMod_init_772 q.1 q.2.1 q.2.2) (v0, v1, h) = some out) : e_J G X 772 [(0, .ref (G.1 + v0)), (1, .int v1)] [] h :=
  lpc_ok (P := P_EMod_init_772 G X) (O := (O_EMod_init G X)) (fun q r hm O => w_EMod_init_772 C I O hm) hm O
theorem w_EMod_init_662 {G : jG} {X : jX} (C : e_jC G X cX12_init 2 RX12 1 70) (I : ∀ Y, X.2 = some Y → (xM Y).name = "<init>") {v0 : Nat} {v1 : Int32} {h : Hp} {out : ((Nat × Int32 × Hp) ⊕ Hp)} (O : (O_EMod_init_662 G X) out) (hm : s_EMod_init_662 v0 v1 h = some out) : e_J G X 662 [(0, .ref (G.1 + v0)), (1, .int v1)] [] h := by
  unfold s_EMod_init_662 at hm
  refine e_j_iload_n C 1 dX12_init_662 rfl rfl ?_
  refine e_j_bipush C 8 dX12_init_663 (by decide) ?_
  refine e_j_if_icmpge C 690 dX12_init_665 (by decide) hm (fun hm => ?_) (fun hm => ?_)
  · refine e_j_aload_n C 0 dX12_init_690 rfl rfl ?_
    obtain ⟨c1, hm⟩ := e_ak_inv hm
    refine e_j_gN C f_X12_20 c1 hm dX12_init_691 (fun r2 hm => ?_)
    refine e_j_bipush C 30 dX12_init_694 (by decide) ?_
    refine e_j_bipush C 8 dX12_init_696 (by decide) ?_
    obtain ⟨c3, hm⟩ := e_ak_inv hm
    refine e_j_iast C c3 hm dX12_init_698 (fun hm => ?_)
    refine e_j_aload_n C 0 dX12_init_699 rfl rfl ?_
    refine e_j_nmH hm (fun h4 hm => ?_)
    obtain ⟨c5, hm⟩ := e_ak_inv hm
    refine e_j_gN C f_X12_20 c5 hm dX12_init_700 (fun r6 hm => ?_)
    refine e_j_bipush C 31 dX12_init_703 (by decide) ?_
    refine e_j_bipush C 10 dX12_init_705 (by decide) ?_
    obtain ⟨c7, hm⟩ := e_ak_inv hm
    refine e_j_iast C c7 hm dX12_init_707 (fun hm => ?_)
    refine e_j_aload_n C 0 dX12_init_708 rfl rfl ?_
    refine e_j_nmH hm (fun h8 hm => ?_)
    obtain ⟨c9, hm⟩ := e_ak_inv hm
    refine e_j_gN C f_X12_20 c9 hm dX12_init_709 (fun r10 hm => ?_)
    refine e_j_bipush C 32 dX12_init_712 (by decide) ?_
    refine e_j_bipush C 40 dX12_init_714 (by decide) ?_
    obtain ⟨c11, hm⟩ := e_ak_inv hm
    refine e_j_iast C c11 hm dX12_init_716 (fun hm => ?_)
    refine e_j_aload_n C 0 dX12_init_717 rfl rfl ?_
    refine e_j_nmH hm (fun h12 hm => ?_)
    obtain ⟨c13, hm⟩ := e_ak_inv hm
    refine e_j_gN C f_X12_20 c13 hm dX12_init_718 (fun r14 hm => ?_)
    refine e_j_bipush C 33 dX12_init_721 (by decide) ?_
    refine e_j_bipush C 50 dX12_init_723 (by decide) ?_
    obtain ⟨c15, hm⟩ := e_ak_inv hm
    refine e_j_iast C c15 hm dX12_init_725 (fun hm => ?_)
    refine e_j_aload_n C 0 dX12_init_726 rfl rfl ?_
    refine e_j_nmH hm (fun h16 hm => ?_)
    obtain ⟨c17, hm⟩ := e_ak_inv hm
    refine e_j_gN C f_X12_20 c17 hm dX12_init_727 (fun r18 hm => ?_)
    refine e_j_bipush C 35 dX12_init_730 (by decide) ?_
    refine e_j_bipush C 20 dX12_init_732 (by decide) ?_
    obtain ⟨c19, hm⟩ := e_ak_inv hm
    refine e_j_iast C c19 hm dX12_init_734 (fun hm => ?_)
    refine e_j_aload_n C 0 dX12_init_735 rfl rfl ?_
    refine e_j_nmH hm (fun h20 hm => ?_)
    obtain ⟨c21, hm⟩ := e_ak_inv hm
    refine e_j_gN C f_X12_20 c21 hm dX12_init_736 (fun r22 hm => ?_)
    refine e_j_bipush C 36 dX12_init_739 (by decide) ?_
    refine e_j_bipush C 100 dX12_init_741 (by decide) ?_
    obtain ⟨c23, hm⟩ := e_ak_inv hm
    refine e_j_iast C c23 hm dX12_init_743 (fun hm => ?_)
    refine e_j_aload_n C 0 dX12_init_744 rfl rfl ?_
    refine e_j_nmH hm (fun h24 hm => ?_)
    obtain ⟨c25, hm⟩ := e_ak_inv hm
    refine e_j_gN C f_X12_20 c25 hm dX12_init_745 (fun r26 hm => ?_)
    refine e_j_bipush C 37 dX12_init_748 (by decide) ?_
    refine e_j_iconst C 2 dX12_init_750 (by decide) ?_
    obtain ⟨c27, hm⟩ := e_ak_inv hm
    refine e_j_iast C c27 hm dX12_init_751 (fun hm => ?_)
    refine e_j_aload_n C 0 dX12_init_752 rfl rfl ?_
    refine e_j_nmH hm (fun h28 hm => ?_)
    obtain ⟨c29, hm⟩ := e_ak_inv hm
    refine e_j_gN C f_X12_20 c29 hm dX12_init_753 (fun r30 hm => ?_)
    refine e_j_bipush C 38 dX12_init_756 (by decide) ?_
    refine e_j_iconst C 5 dX12_init_758 (by decide) ?_
    obtain ⟨c31, hm⟩ := e_ak_inv hm
    refine e_j_iast C c31 hm dX12_init_759 (fun hm => ?_)
    refine e_j_aload_n C 0 dX12_init_760 rfl rfl ?_
    refine e_j_nmH hm (fun h32 hm => ?_)
    obtain ⟨c33, hm⟩ := e_ak_inv hm
    refine e_j_gN C f_X12_20 c33 hm dX12_init_761 (fun r34 hm => ?_)
    refine e_j_bipush C 40 dX12_init_764 (by decide) ?_
    refine e_j_sipush C 1013 dX12_init_766 (by decide) ?_
    obtain ⟨c35, hm⟩ := e_ak_inv hm
    refine e_j_iast C c35 hm dX12_init_769 (fun hm => ?_)
    refine e_j_iconst C 0 dX12_init_770 (by decide) ?_
    refine e_j_istore_n C [(1, .int ((0 : Int32))), (0, .ref (G.1 + v0))] dX12_init_771 rfl (by decide) rfl ?_
    obtain ⟨o_0, hm_0, rfl⟩ := inr_inv hm
    refine e_j_sub (L' := [(0, .ref (G.1 + v0)), (1, .int ((0 : Int32)))]) [1, 0] rfl ?_
    exact k_EMod_init_772 C I O hm_0
  · refine e_j_aload_n C 0 dX12_init_668 rfl rfl ?_
    obtain ⟨c36, hm⟩ := e_ak_inv hm
    refine e_j_gN C f_X12_20 c36 hm dX12_init_669 (fun r37 hm => ?_)
    refine e_j_bipush C 6 dX12_init_672 (by decide) ?_
    refine e_j_iconst C 3 dX12_init_674 (by decide) ?_
    refine e_j_iload_n C 1 dX12_init_675 rfl rfl ?_
    refine e_j_imul C dX12_init_676 ?_
    refine e_j_iadd C dX12_init_677 ?_
    refine e_j_iconst C 1 dX12_init_678 (by decide) ?_
    refine e_j_iadd C dX12_init_679 ?_
    refine e_j_sipush C 720 dX12_init_680 (by decide) ?_
    obtain ⟨c38, hm⟩ := e_ak_inv hm
    refine e_j_iast C c38 hm dX12_init_683 (fun hm => ?_)
    refine e_j_iinc C 1 [(1, .int (v1 + (1 : Int32))), (0, .ref (G.1 + v0))] dX12_init_684 rfl (add_lit (by decide)) (by decide) rfl ?_
    refine e_j_goto C 662 dX12_init_687 (by decide) ?_
    obtain rfl := Option.some.inj hm
    refine e_j_sub (L' := [(0, .ref (G.1 + v0)), (1, .int (v1 + (1 : Int32)))]) [1, 0] rfl ?_
    exact O
theorem k_EMod_init_662 {G : jG} {X : jX} (C : e_jC G X cX12_init 2 RX12 1 70) (I : ∀ Y, X.2 = some Y → (xM Y).name = "<init>") {v0 : Nat} {v1 : Int32} {h : Hp} {out : Hp} (O : (O_EMod_init G X) out) (hm : lpc (fun q => s_EMod_init_662 q.1 q.2.1 q.2.2) (v0, v1, h) = some out) : e_J G X 662 [(0, .ref (G.1 + v0)), (1, .int v1)] [] h :=
  lpc_ok (P := P_EMod_init_662 G X) (O := (O_EMod_init G X)) (fun q r hm O => w_EMod_init_662 C I O hm) hm O
theorem w_EMod_init_593 {G : jG} {X : jX} (C : e_jC G X cX12_init 2 RX12 1 70) (I : ∀ Y, X.2 = some Y → (xM Y).name = "<init>") {v0 : Nat} {h : Hp} {out : Hp} (O : (O_EMod_init G X) out) (hm : s_EMod_init_593 v0 h = some out) : e_J G X 593 [(0, .ref (G.1 + v0))] [] h := by
  unfold s_EMod_init_593 at hm
  refine e_j_aload_n C 0 dX12_init_593 rfl rfl ?_
  refine e_j_bipush C 6 dX12_init_594 (by decide) ?_
  refine e_j_newaI C hm wd_255 dX12_init_596 (fun hm => ?_)
  refine e_j_nmH hm (fun h1 hm => ?_)
  obtain ⟨c2, hm⟩ := e_ak_inv hm
  refine e_j_pF C I (o := (some (e_nid h))) f_X12_88 ⟨_, _, _, rfl, rfl⟩ c2 rfl dX12_init_598 ?_
  refine e_j_aload_n C 0 dX12_init_601 rfl rfl ?_
  refine e_j_bipush C 6 dX12_init_602 (by decide) ?_
  refine e_j_nmH hm (fun h3 hm => ?_)
  refine e_j_newaI C hm wd_255 dX12_init_604 (fun hm => ?_)
  refine e_j_nmH hm (fun h4 hm => ?_)
  obtain ⟨c5, hm⟩ := e_ak_inv hm
  refine e_j_pF C I (o := (some (e_nid h3))) f_X12_91 ⟨_, _, _, rfl, rfl⟩ c5 rfl dX12_init_606 ?_
  refine e_j_aload_n C 0 dX12_init_609 rfl rfl ?_
  refine e_j_bipush C 12 dX12_init_610 (by decide) ?_
  refine e_j_nmH hm (fun h6 hm => ?_)
  refine e_j_newaI C hm wd_255 dX12_init_612 (fun hm => ?_)
  refine e_j_nmH hm (fun h7 hm => ?_)
  obtain ⟨c8, hm⟩ := e_ak_inv hm
  refine e_j_pF C I (o := (some (e_nid h6))) f_X12_94 ⟨_, _, _, rfl, rfl⟩ c8 rfl dX12_init_614 ?_
  refine e_j_aload_n C 0 dX12_init_617 rfl rfl ?_
  refine e_j_sipush C 1440 dX12_init_618 (by decide) ?_
  refine e_j_nmH hm (fun h9 hm => ?_)
  refine e_j_newaI C hm wd_255 dX12_init_621 (fun hm => ?_)
  refine e_j_nmH hm (fun h10 hm => ?_)
  obtain ⟨c11, hm⟩ := e_ak_inv hm
  refine e_j_pF C I (o := (some (e_nid h9))) f_X12_97 ⟨_, _, _, rfl, rfl⟩ c11 rfl dX12_init_623 ?_
  refine e_j_aload_n C 0 dX12_init_626 rfl rfl ?_
  refine e_j_sipush C 1440 dX12_init_627 (by decide) ?_
  refine e_j_nmH hm (fun h12 hm => ?_)
  refine e_j_newaI C hm wd_255 dX12_init_630 (fun hm => ?_)
  refine e_j_nmH hm (fun h13 hm => ?_)
  obtain ⟨c14, hm⟩ := e_ak_inv hm
  refine e_j_pF C I (o := (some (e_nid h12))) f_X12_100 ⟨_, _, _, rfl, rfl⟩ c14 rfl dX12_init_632 ?_
  refine e_j_aload_n C 0 dX12_init_635 rfl rfl ?_
  refine e_j_bipush C 52 dX12_init_636 (by decide) ?_
  refine e_j_nmH hm (fun h15 hm => ?_)
  refine e_j_newaL C hm wd_389 dX12_init_638 (fun hm => ?_)
  refine e_j_nmH hm (fun h16 hm => ?_)
  obtain ⟨c17, hm⟩ := e_ak_inv hm
  refine e_j_pF C I (o := (some (e_nid h15))) f_X12_103 ⟨_, _, _, rfl, rfl⟩ c17 rfl dX12_init_640 ?_
  refine e_j_aload_n C 0 dX12_init_643 rfl rfl ?_
  refine e_j_bipush C 52 dX12_init_644 (by decide) ?_
  refine e_j_nmH hm (fun h18 hm => ?_)
  refine e_j_newaL C hm wd_389 dX12_init_646 (fun hm => ?_)
  refine e_j_nmH hm (fun h19 hm => ?_)
  obtain ⟨c20, hm⟩ := e_ak_inv hm
  refine e_j_pF C I (o := (some (e_nid h18))) f_X12_107 ⟨_, _, _, rfl, rfl⟩ c20 rfl dX12_init_648 ?_
  refine e_j_aload_n C 0 dX12_init_651 rfl rfl ?_
  refine e_j_sipush C 1440 dX12_init_652 (by decide) ?_
  refine e_j_nmH hm (fun h21 hm => ?_)
  refine e_j_newaI C hm wd_255 dX12_init_655 (fun hm => ?_)
  refine e_j_nmH hm (fun h22 hm => ?_)
  obtain ⟨c23, hm⟩ := e_ak_inv hm
  refine e_j_pF C I (o := (some (e_nid h21))) f_X12_110 ⟨_, _, _, rfl, rfl⟩ c23 rfl dX12_init_657 ?_
  refine e_j_iconst C 0 dX12_init_660 (by decide) ?_
  refine e_j_istore_n C [(1, .int ((0 : Int32))), (0, .ref (G.1 + v0))] dX12_init_661 rfl (by decide) rfl ?_
  refine e_j_sub (L' := [(0, .ref (G.1 + v0)), (1, .int ((0 : Int32)))]) [1, 0] rfl ?_
  exact k_EMod_init_662 C I O hm
theorem w_EMod_init_503 {G : jG} {X : jX} (C : e_jC G X cX12_init 2 RX12 1 70) (I : ∀ Y, X.2 = some Y → (xM Y).name = "<init>") {v0 : Nat} {h : Hp} {out : Hp} (O : (O_EMod_init G X) out) (hm : s_EMod_init_503 v0 h = some out) : e_J G X 503 [(0, .ref (G.1 + v0))] [] h := by
  unfold s_EMod_init_503 at hm
  refine e_j_aload_n C 0 dX12_init_503 rfl rfl ?_
  refine e_j_bipush C 24 dX12_init_504 (by decide) ?_
  refine e_j_newaI C hm wd_255 dX12_init_506 (fun hm => ?_)
  refine e_j_nmH hm (fun h1 hm => ?_)
  obtain ⟨c2, hm⟩ := e_ak_inv hm
  refine e_j_pF C I (o := (some (e_nid h))) f_X12_55 ⟨_, _, _, rfl, rfl⟩ c2 rfl dX12_init_508 ?_
  refine e_j_aload_n C 0 dX12_init_511 rfl rfl ?_
  refine e_j_sipush C 1440 dX12_init_512 (by decide) ?_
  refine e_j_nmH hm (fun h3 hm => ?_)
  refine e_j_newaI C hm wd_255 dX12_init_515 (fun hm => ?_)
  refine e_j_nmH hm (fun h4 hm => ?_)
  obtain ⟨c5, hm⟩ := e_ak_inv hm
  refine e_j_pF C I (o := (some (e_nid h3))) f_X12_58 ⟨_, _, _, rfl, rfl⟩ c5 rfl dX12_init_517 ?_
  refine e_j_aload_n C 0 dX12_init_520 rfl rfl ?_
  refine e_j_sipush C 1440 dX12_init_521 (by decide) ?_
  refine e_j_nmH hm (fun h6 hm => ?_)
  refine e_j_newaI C hm wd_255 dX12_init_524 (fun hm => ?_)
  refine e_j_nmH hm (fun h7 hm => ?_)
  obtain ⟨c8, hm⟩ := e_ak_inv hm
  refine e_j_pF C I (o := (some (e_nid h6))) f_X12_61 ⟨_, _, _, rfl, rfl⟩ c8 rfl dX12_init_526 ?_
  refine e_j_aload_n C 0 dX12_init_529 rfl rfl ?_
  refine e_j_iconst C (-1 : Int32) dX12_init_530 (by decide) ?_
  refine e_j_nmH hm (fun h9 hm => ?_)
  obtain ⟨c10, hm⟩ := e_ak_inv hm
  refine e_j_pI C f_X12_64 c10 dX12_init_531 ?_
  refine e_j_aload_n C 0 dX12_init_534 rfl rfl ?_
  refine e_j_sipush C 8640 dX12_init_535 (by decide) ?_
  refine e_j_nmH hm (fun h11 hm => ?_)
  refine e_j_newaB C hm wd_858 dX12_init_538 (fun hm => ?_)
  refine e_j_nmH hm (fun h12 hm => ?_)
  obtain ⟨c13, hm⟩ := e_ak_inv hm
  refine e_j_pF C I (o := (some (e_nid h11))) f_X12_67 ⟨_, _, _, rfl, rfl⟩ c13 rfl dX12_init_540 ?_
  refine e_j_aload_n C 0 dX12_init_543 rfl rfl ?_
  refine e_j_sipush C 7200 dX12_init_544 (by decide) ?_
  refine e_j_nmH hm (fun h14 hm => ?_)
  refine e_j_newaZ C hm wd_274 dX12_init_547 (fun hm => ?_)
  refine e_j_nmH hm (fun h15 hm => ?_)
  obtain ⟨c16, hm⟩ := e_ak_inv hm
  refine e_j_pF C I (o := (some (e_nid h14))) f_X12_70 ⟨_, _, _, rfl, rfl⟩ c16 rfl dX12_init_549 ?_
  refine e_j_aload_n C 0 dX12_init_552 rfl rfl ?_
  refine e_j_sipush C 7200 dX12_init_553 (by decide) ?_
  refine e_j_nmH hm (fun h17 hm => ?_)
  refine e_j_newaZ C hm wd_274 dX12_init_556 (fun hm => ?_)
  refine e_j_nmH hm (fun h18 hm => ?_)
  obtain ⟨c19, hm⟩ := e_ak_inv hm
  refine e_j_pF C I (o := (some (e_nid h17))) f_X12_73 ⟨_, _, _, rfl, rfl⟩ c19 rfl dX12_init_558 ?_
  refine e_j_aload_n C 0 dX12_init_561 rfl rfl ?_
  refine e_j_bipush C 50 dX12_init_562 (by decide) ?_
  refine e_j_nmH hm (fun h20 hm => ?_)
  refine e_j_newaI C hm wd_255 dX12_init_564 (fun hm => ?_)
  refine e_j_nmH hm (fun h21 hm => ?_)
  obtain ⟨c22, hm⟩ := e_ak_inv hm
  refine e_j_pF C I (o := (some (e_nid h20))) f_X12_76 ⟨_, _, _, rfl, rfl⟩ c22 rfl dX12_init_566 ?_
  refine e_j_aload_n C 0 dX12_init_569 rfl rfl ?_
  refine e_j_bipush C 50 dX12_init_570 (by decide) ?_
  refine e_j_nmH hm (fun h23 hm => ?_)
  refine e_j_newaI C hm wd_255 dX12_init_572 (fun hm => ?_)
  refine e_j_nmH hm (fun h24 hm => ?_)
  obtain ⟨c25, hm⟩ := e_ak_inv hm
  refine e_j_pF C I (o := (some (e_nid h23))) f_X12_79 ⟨_, _, _, rfl, rfl⟩ c25 rfl dX12_init_574 ?_
  refine e_j_aload_n C 0 dX12_init_577 rfl rfl ?_
  refine e_j_bipush C 6 dX12_init_578 (by decide) ?_
  refine e_j_nmH hm (fun h26 hm => ?_)
  refine e_j_newaI C hm wd_255 dX12_init_580 (fun hm => ?_)
  refine e_j_nmH hm (fun h27 hm => ?_)
  obtain ⟨c28, hm⟩ := e_ak_inv hm
  refine e_j_pF C I (o := (some (e_nid h26))) f_X12_82 ⟨_, _, _, rfl, rfl⟩ c28 rfl dX12_init_582 ?_
  refine e_j_aload_n C 0 dX12_init_585 rfl rfl ?_
  refine e_j_bipush C 6 dX12_init_586 (by decide) ?_
  refine e_j_nmH hm (fun h29 hm => ?_)
  refine e_j_newaI C hm wd_255 dX12_init_588 (fun hm => ?_)
  refine e_j_nmH hm (fun h30 hm => ?_)
  obtain ⟨c31, hm⟩ := e_ak_inv hm
  refine e_j_pF C I (o := (some (e_nid h29))) f_X12_85 ⟨_, _, _, rfl, rfl⟩ c31 rfl dX12_init_590 ?_
  refine e_j_sub (L' := [(0, .ref (G.1 + v0))]) [0] rfl ?_
  exact w_EMod_init_593 C I O hm
theorem w_EMod_init_426 {G : jG} {X : jX} (C : e_jC G X cX12_init 2 RX12 1 70) (I : ∀ Y, X.2 = some Y → (xM Y).name = "<init>") {v0 : Nat} {s0 : Nat} {s1 : Nat} {h : Hp} {out : Hp} (O : (O_EMod_init G X) out) (hm : s_EMod_init_426 v0 s0 s1 h = some out) : e_J G X 426 [(0, .ref (G.1 + v0))] [.ref (G.1 + s0), .ref (G.1 + s1)] h := by
  unfold s_EMod_init_426 at hm
  refine e_j_dup C dX12_init_426 rfl ?_
  refine e_j_bipush C 65 dX12_init_427 (by decide) ?_
  refine e_j_bipush C 101 dX12_init_429 (by decide) ?_
  obtain ⟨c1, hm⟩ := e_ak_inv hm
  refine e_j_bast C c1 hm dX12_init_431 (fun hm => ?_)
  refine e_j_dup C dX12_init_432 rfl ?_
  refine e_j_bipush C 66 dX12_init_433 (by decide) ?_
  refine e_j_bipush C 115 dX12_init_435 (by decide) ?_
  refine e_j_nmH hm (fun h2 hm => ?_)
  obtain ⟨c3, hm⟩ := e_ak_inv hm
  refine e_j_bast C c3 hm dX12_init_437 (fun hm => ?_)
  refine e_j_dup C dX12_init_438 rfl ?_
  refine e_j_bipush C 67 dX12_init_439 (by decide) ?_
  refine e_j_bipush C 32 dX12_init_441 (by decide) ?_
  refine e_j_nmH hm (fun h4 hm => ?_)
  obtain ⟨c5, hm⟩ := e_ak_inv hm
  refine e_j_bast C c5 hm dX12_init_443 (fun hm => ?_)
  refine e_j_nmH hm (fun h6 hm => ?_)
  obtain ⟨c7, hm⟩ := e_ak_inv hm
  refine e_j_pF C I (o := (some s0)) f_X12_30 ⟨_, _, _, rfl, rfl⟩ c7 rfl dX12_init_444 ?_
  refine e_j_aload_n C 0 dX12_init_447 rfl rfl ?_
  refine e_j_sipush C 400 dX12_init_448 (by decide) ?_
  refine e_j_nmH hm (fun h8 hm => ?_)
  refine e_j_newaB C hm wd_858 dX12_init_451 (fun hm => ?_)
  refine e_j_nmH hm (fun h9 hm => ?_)
  obtain ⟨c10, hm⟩ := e_ak_inv hm
  refine e_j_pF C I (o := (some (e_nid h8))) f_X12_34 ⟨_, _, _, rfl, rfl⟩ c10 rfl dX12_init_453 ?_
  refine e_j_aload_n C 0 dX12_init_456 rfl rfl ?_
  refine e_j_iconst C 5 dX12_init_457 (by decide) ?_
  refine e_j_nmH hm (fun h11 hm => ?_)
  refine e_j_newaI C hm wd_255 dX12_init_458 (fun hm => ?_)
  refine e_j_nmH hm (fun h12 hm => ?_)
  obtain ⟨c13, hm⟩ := e_ak_inv hm
  refine e_j_pF C I (o := (some (e_nid h11))) f_X12_37 ⟨_, _, _, rfl, rfl⟩ c13 rfl dX12_init_460 ?_
  refine e_j_aload_n C 0 dX12_init_463 rfl rfl ?_
  refine e_j_iconst C (-1 : Int32) dX12_init_464 (by decide) ?_
  refine e_j_nmH hm (fun h14 hm => ?_)
  obtain ⟨c15, hm⟩ := e_ak_inv hm
  refine e_j_pI C f_X12_40 c15 dX12_init_465 ?_
  refine e_j_aload_n C 0 dX12_init_468 rfl rfl ?_
  refine e_j_sipush C 401 dX12_init_469 (by decide) ?_
  refine e_j_nmH hm (fun h16 hm => ?_)
  refine e_j_newaI C hm wd_255 dX12_init_472 (fun hm => ?_)
  refine e_j_nmH hm (fun h17 hm => ?_)
  obtain ⟨c18, hm⟩ := e_ak_inv hm
  refine e_j_pF C I (o := (some (e_nid h16))) f_X12_43 ⟨_, _, _, rfl, rfl⟩ c18 rfl dX12_init_474 ?_
  refine e_j_aload_n C 0 dX12_init_477 rfl rfl ?_
  refine e_j_sipush C 401 dX12_init_478 (by decide) ?_
  refine e_j_nmH hm (fun h19 hm => ?_)
  refine e_j_newaI C hm wd_255 dX12_init_481 (fun hm => ?_)
  refine e_j_nmH hm (fun h20 hm => ?_)
  obtain ⟨c21, hm⟩ := e_ak_inv hm
  refine e_j_pF C I (o := (some (e_nid h19))) f_X12_46 ⟨_, _, _, rfl, rfl⟩ c21 rfl dX12_init_483 ?_
  refine e_j_aload_n C 0 dX12_init_486 rfl rfl ?_
  refine e_j_sipush C 401 dX12_init_487 (by decide) ?_
  refine e_j_nmH hm (fun h22 hm => ?_)
  refine e_j_newaI C hm wd_255 dX12_init_490 (fun hm => ?_)
  refine e_j_nmH hm (fun h23 hm => ?_)
  obtain ⟨c24, hm⟩ := e_ak_inv hm
  refine e_j_pF C I (o := (some (e_nid h22))) f_X12_49 ⟨_, _, _, rfl, rfl⟩ c24 rfl dX12_init_492 ?_
  refine e_j_aload_n C 0 dX12_init_495 rfl rfl ?_
  refine e_j_bipush C 7 dX12_init_496 (by decide) ?_
  refine e_j_nmH hm (fun h25 hm => ?_)
  refine e_j_newaI C hm wd_255 dX12_init_498 (fun hm => ?_)
  refine e_j_nmH hm (fun h26 hm => ?_)
  obtain ⟨c27, hm⟩ := e_ak_inv hm
  refine e_j_pF C I (o := (some (e_nid h25))) f_X12_52 ⟨_, _, _, rfl, rfl⟩ c27 rfl dX12_init_500 ?_
  refine e_j_sub (L' := [(0, .ref (G.1 + v0))]) [0] rfl ?_
  exact w_EMod_init_503 C I O hm
theorem w_EMod_init_366 {G : jG} {X : jX} (C : e_jC G X cX12_init 2 RX12 1 70) (I : ∀ Y, X.2 = some Y → (xM Y).name = "<init>") {v0 : Nat} {s0 : Nat} {s1 : Nat} {h : Hp} {out : Hp} (O : (O_EMod_init G X) out) (hm : s_EMod_init_366 v0 s0 s1 h = some out) : e_J G X 366 [(0, .ref (G.1 + v0))] [.ref (G.1 + s0), .ref (G.1 + s1)] h := by
  unfold s_EMod_init_366 at hm
  refine e_j_dup C dX12_init_366 rfl ?_
  refine e_j_bipush C 55 dX12_init_367 (by decide) ?_
  refine e_j_bipush C 105 dX12_init_369 (by decide) ?_
  obtain ⟨c1, hm⟩ := e_ak_inv hm
  refine e_j_bast C c1 hm dX12_init_371 (fun hm => ?_)
  refine e_j_dup C dX12_init_372 rfl ?_
  refine e_j_bipush C 56 dX12_init_373 (by decide) ?_
  refine e_j_bipush C 110 dX12_init_375 (by decide) ?_
  refine e_j_nmH hm (fun h2 hm => ?_)
  obtain ⟨c3, hm⟩ := e_ak_inv hm
  refine e_j_bast C c3 hm dX12_init_377 (fun hm => ?_)
  refine e_j_dup C dX12_init_378 rfl ?_
  refine e_j_bipush C 57 dX12_init_379 (by decide) ?_
  refine e_j_bipush C 100 dX12_init_381 (by decide) ?_
  refine e_j_nmH hm (fun h4 hm => ?_)
  obtain ⟨c5, hm⟩ := e_ak_inv hm
  refine e_j_bast C c5 hm dX12_init_383 (fun hm => ?_)
  refine e_j_dup C dX12_init_384 rfl ?_
  refine e_j_bipush C 58 dX12_init_385 (by decide) ?_
  refine e_j_bipush C 32 dX12_init_387 (by decide) ?_
  refine e_j_nmH hm (fun h6 hm => ?_)
  obtain ⟨c7, hm⟩ := e_ak_inv hm
  refine e_j_bast C c7 hm dX12_init_389 (fun hm => ?_)
  refine e_j_dup C dX12_init_390 rfl ?_
  refine e_j_bipush C 59 dX12_init_391 (by decide) ?_
  refine e_j_bipush C 116 dX12_init_393 (by decide) ?_
  refine e_j_nmH hm (fun h8 hm => ?_)
  obtain ⟨c9, hm⟩ := e_ak_inv hm
  refine e_j_bast C c9 hm dX12_init_395 (fun hm => ?_)
  refine e_j_dup C dX12_init_396 rfl ?_
  refine e_j_bipush C 60 dX12_init_397 (by decide) ?_
  refine e_j_bipush C 117 dX12_init_399 (by decide) ?_
  refine e_j_nmH hm (fun h10 hm => ?_)
  obtain ⟨c11, hm⟩ := e_ak_inv hm
  refine e_j_bast C c11 hm dX12_init_401 (fun hm => ?_)
  refine e_j_dup C dX12_init_402 rfl ?_
  refine e_j_bipush C 61 dX12_init_403 (by decide) ?_
  refine e_j_bipush C 114 dX12_init_405 (by decide) ?_
  refine e_j_nmH hm (fun h12 hm => ?_)
  obtain ⟨c13, hm⟩ := e_ak_inv hm
  refine e_j_bast C c13 hm dX12_init_407 (fun hm => ?_)
  refine e_j_dup C dX12_init_408 rfl ?_
  refine e_j_bipush C 62 dX12_init_409 (by decide) ?_
  refine e_j_bipush C 98 dX12_init_411 (by decide) ?_
  refine e_j_nmH hm (fun h14 hm => ?_)
  obtain ⟨c15, hm⟩ := e_ak_inv hm
  refine e_j_bast C c15 hm dX12_init_413 (fun hm => ?_)
  refine e_j_dup C dX12_init_414 rfl ?_
  refine e_j_bipush C 63 dX12_init_415 (by decide) ?_
  refine e_j_bipush C 105 dX12_init_417 (by decide) ?_
  refine e_j_nmH hm (fun h16 hm => ?_)
  obtain ⟨c17, hm⟩ := e_ak_inv hm
  refine e_j_bast C c17 hm dX12_init_419 (fun hm => ?_)
  refine e_j_dup C dX12_init_420 rfl ?_
  refine e_j_bipush C 64 dX12_init_421 (by decide) ?_
  refine e_j_bipush C 110 dX12_init_423 (by decide) ?_
  refine e_j_nmH hm (fun h18 hm => ?_)
  obtain ⟨c19, hm⟩ := e_ak_inv hm
  refine e_j_bast C c19 hm dX12_init_425 (fun hm => ?_)
  refine e_j_sub (L' := [(0, .ref (G.1 + v0))]) [0] rfl ?_
  exact w_EMod_init_426 C I O hm
theorem w_EMod_init_306 {G : jG} {X : jX} (C : e_jC G X cX12_init 2 RX12 1 70) (I : ∀ Y, X.2 = some Y → (xM Y).name = "<init>") {v0 : Nat} {s0 : Nat} {s1 : Nat} {h : Hp} {out : Hp} (O : (O_EMod_init G X) out) (hm : s_EMod_init_306 v0 s0 s1 h = some out) : e_J G X 306 [(0, .ref (G.1 + v0))] [.ref (G.1 + s0), .ref (G.1 + s1)] h := by
  unfold s_EMod_init_306 at hm
  refine e_j_dup C dX12_init_306 rfl ?_
  refine e_j_bipush C 45 dX12_init_307 (by decide) ?_
  refine e_j_bipush C 110 dX12_init_309 (by decide) ?_
  obtain ⟨c1, hm⟩ := e_ak_inv hm
  refine e_j_bast C c1 hm dX12_init_311 (fun hm => ?_)
  refine e_j_dup C dX12_init_312 rfl ?_
  refine e_j_bipush C 46 dX12_init_313 (by decide) ?_
  refine e_j_bipush C 100 dX12_init_315 (by decide) ?_
  refine e_j_nmH hm (fun h2 hm => ?_)
  obtain ⟨c3, hm⟩ := e_ak_inv hm
  refine e_j_bast C c3 hm dX12_init_317 (fun hm => ?_)
  refine e_j_dup C dX12_init_318 rfl ?_
  refine e_j_bipush C 47 dX12_init_319 (by decide) ?_
  refine e_j_bipush C 32 dX12_init_321 (by decide) ?_
  refine e_j_nmH hm (fun h4 hm => ?_)
  obtain ⟨c5, hm⟩ := e_ak_inv hm
  refine e_j_bast C c5 hm dX12_init_323 (fun hm => ?_)
  refine e_j_dup C dX12_init_324 rfl ?_
  refine e_j_bipush C 48 dX12_init_325 (by decide) ?_
  refine e_j_bipush C 103 dX12_init_327 (by decide) ?_
  refine e_j_nmH hm (fun h6 hm => ?_)
  obtain ⟨c7, hm⟩ := e_ak_inv hm
  refine e_j_bast C c7 hm dX12_init_329 (fun hm => ?_)
  refine e_j_dup C dX12_init_330 rfl ?_
  refine e_j_bipush C 49 dX12_init_331 (by decide) ?_
  refine e_j_bipush C 108 dX12_init_333 (by decide) ?_
  refine e_j_nmH hm (fun h8 hm => ?_)
  obtain ⟨c9, hm⟩ := e_ak_inv hm
  refine e_j_bast C c9 hm dX12_init_335 (fun hm => ?_)
  refine e_j_dup C dX12_init_336 rfl ?_
  refine e_j_bipush C 50 dX12_init_337 (by decide) ?_
  refine e_j_bipush C 97 dX12_init_339 (by decide) ?_
  refine e_j_nmH hm (fun h10 hm => ?_)
  obtain ⟨c11, hm⟩ := e_ak_inv hm
  refine e_j_bast C c11 hm dX12_init_341 (fun hm => ?_)
  refine e_j_dup C dX12_init_342 rfl ?_
  refine e_j_bipush C 51 dX12_init_343 (by decide) ?_
  refine e_j_bipush C 115 dX12_init_345 (by decide) ?_
  refine e_j_nmH hm (fun h12 hm => ?_)
  obtain ⟨c13, hm⟩ := e_ak_inv hm
  refine e_j_bast C c13 hm dX12_init_347 (fun hm => ?_)
  refine e_j_dup C dX12_init_348 rfl ?_
  refine e_j_bipush C 52 dX12_init_349 (by decide) ?_
  refine e_j_bipush C 115 dX12_init_351 (by decide) ?_
  refine e_j_nmH hm (fun h14 hm => ?_)
  obtain ⟨c15, hm⟩ := e_ak_inv hm
  refine e_j_bast C c15 hm dX12_init_353 (fun hm => ?_)
  refine e_j_dup C dX12_init_354 rfl ?_
  refine e_j_bipush C 53 dX12_init_355 (by decide) ?_
  refine e_j_bipush C 32 dX12_init_357 (by decide) ?_
  refine e_j_nmH hm (fun h16 hm => ?_)
  obtain ⟨c17, hm⟩ := e_ak_inv hm
  refine e_j_bast C c17 hm dX12_init_359 (fun hm => ?_)
  refine e_j_dup C dX12_init_360 rfl ?_
  refine e_j_bipush C 54 dX12_init_361 (by decide) ?_
  refine e_j_bipush C 107 dX12_init_363 (by decide) ?_
  refine e_j_nmH hm (fun h18 hm => ?_)
  obtain ⟨c19, hm⟩ := e_ak_inv hm
  refine e_j_bast C c19 hm dX12_init_365 (fun hm => ?_)
  refine e_j_sub (L' := [(0, .ref (G.1 + v0))]) [0] rfl ?_
  exact w_EMod_init_366 C I O hm
theorem w_EMod_init_246 {G : jG} {X : jX} (C : e_jC G X cX12_init 2 RX12 1 70) (I : ∀ Y, X.2 = some Y → (xM Y).name = "<init>") {v0 : Nat} {s0 : Nat} {s1 : Nat} {h : Hp} {out : Hp} (O : (O_EMod_init G X) out) (hm : s_EMod_init_246 v0 s0 s1 h = some out) : e_J G X 246 [(0, .ref (G.1 + v0))] [.ref (G.1 + s0), .ref (G.1 + s1)] h := by
  unfold s_EMod_init_246 at hm
  refine e_j_dup C dX12_init_246 rfl ?_
  refine e_j_bipush C 35 dX12_init_247 (by decide) ?_
  refine e_j_bipush C 32 dX12_init_249 (by decide) ?_
  obtain ⟨c1, hm⟩ := e_ak_inv hm
  refine e_j_bast C c1 hm dX12_init_251 (fun hm => ?_)
  refine e_j_dup C dX12_init_252 rfl ?_
  refine e_j_bipush C 36 dX12_init_253 (by decide) ?_
  refine e_j_bipush C 109 dX12_init_255 (by decide) ?_
  refine e_j_nmH hm (fun h2 hm => ?_)
  obtain ⟨c3, hm⟩ := e_ak_inv hm
  refine e_j_bast C c3 hm dX12_init_257 (fun hm => ?_)
  refine e_j_dup C dX12_init_258 rfl ?_
  refine e_j_bipush C 37 dX12_init_259 (by decide) ?_
  refine e_j_bipush C 105 dX12_init_261 (by decide) ?_
  refine e_j_nmH hm (fun h4 hm => ?_)
  obtain ⟨c5, hm⟩ := e_ak_inv hm
  refine e_j_bast C c5 hm dX12_init_263 (fun hm => ?_)
  refine e_j_dup C dX12_init_264 rfl ?_
  refine e_j_bipush C 38 dX12_init_265 (by decide) ?_
  refine e_j_bipush C 110 dX12_init_267 (by decide) ?_
  refine e_j_nmH hm (fun h6 hm => ?_)
  obtain ⟨c7, hm⟩ := e_ak_inv hm
  refine e_j_bast C c7 hm dX12_init_269 (fun hm => ?_)
  refine e_j_dup C dX12_init_270 rfl ?_
  refine e_j_bipush C 39 dX12_init_271 (by decide) ?_
  refine e_j_bipush C 117 dX12_init_273 (by decide) ?_
  refine e_j_nmH hm (fun h8 hm => ?_)
  obtain ⟨c9, hm⟩ := e_ak_inv hm
  refine e_j_bast C c9 hm dX12_init_275 (fun hm => ?_)
  refine e_j_dup C dX12_init_276 rfl ?_
  refine e_j_bipush C 40 dX12_init_277 (by decide) ?_
  refine e_j_bipush C 116 dX12_init_279 (by decide) ?_
  refine e_j_nmH hm (fun h10 hm => ?_)
  obtain ⟨c11, hm⟩ := e_ak_inv hm
  refine e_j_bast C c11 hm dX12_init_281 (fun hm => ?_)
  refine e_j_dup C dX12_init_282 rfl ?_
  refine e_j_bipush C 41 dX12_init_283 (by decide) ?_
  refine e_j_bipush C 101 dX12_init_285 (by decide) ?_
  refine e_j_nmH hm (fun h12 hm => ?_)
  obtain ⟨c13, hm⟩ := e_ak_inv hm
  refine e_j_bast C c13 hm dX12_init_287 (fun hm => ?_)
  refine e_j_dup C dX12_init_288 rfl ?_
  refine e_j_bipush C 42 dX12_init_289 (by decide) ?_
  refine e_j_bipush C 32 dX12_init_291 (by decide) ?_
  refine e_j_nmH hm (fun h14 hm => ?_)
  obtain ⟨c15, hm⟩ := e_ak_inv hm
  refine e_j_bast C c15 hm dX12_init_293 (fun hm => ?_)
  refine e_j_dup C dX12_init_294 rfl ?_
  refine e_j_bipush C 43 dX12_init_295 (by decide) ?_
  refine e_j_bipush C 119 dX12_init_297 (by decide) ?_
  refine e_j_nmH hm (fun h16 hm => ?_)
  obtain ⟨c17, hm⟩ := e_ak_inv hm
  refine e_j_bast C c17 hm dX12_init_299 (fun hm => ?_)
  refine e_j_dup C dX12_init_300 rfl ?_
  refine e_j_bipush C 44 dX12_init_301 (by decide) ?_
  refine e_j_bipush C 105 dX12_init_303 (by decide) ?_
  refine e_j_nmH hm (fun h18 hm => ?_)
  obtain ⟨c19, hm⟩ := e_ak_inv hm
  refine e_j_bast C c19 hm dX12_init_305 (fun hm => ?_)
  refine e_j_sub (L' := [(0, .ref (G.1 + v0))]) [0] rfl ?_
  exact w_EMod_init_306 C I O hm
theorem w_EMod_init_186 {G : jG} {X : jX} (C : e_jC G X cX12_init 2 RX12 1 70) (I : ∀ Y, X.2 = some Y → (xM Y).name = "<init>") {v0 : Nat} {s0 : Nat} {s1 : Nat} {h : Hp} {out : Hp} (O : (O_EMod_init G X) out) (hm : s_EMod_init_186 v0 s0 s1 h = some out) : e_J G X 186 [(0, .ref (G.1 + v0))] [.ref (G.1 + s0), .ref (G.1 + s1)] h := by
  unfold s_EMod_init_186 at hm
  refine e_j_dup C dX12_init_186 rfl ?_
  refine e_j_bipush C 25 dX12_init_187 (by decide) ?_
  refine e_j_bipush C 32 dX12_init_189 (by decide) ?_
  obtain ⟨c1, hm⟩ := e_ak_inv hm
  refine e_j_bast C c1 hm dX12_init_191 (fun hm => ?_)
  refine e_j_dup C dX12_init_192 rfl ?_
  refine e_j_bipush C 26 dX12_init_193 (by decide) ?_
  refine e_j_bipush C 102 dX12_init_195 (by decide) ?_
  refine e_j_nmH hm (fun h2 hm => ?_)
  obtain ⟨c3, hm⟩ := e_ak_inv hm
  refine e_j_bast C c3 hm dX12_init_197 (fun hm => ?_)
  refine e_j_dup C dX12_init_198 rfl ?_
  refine e_j_bipush C 27 dX12_init_199 (by decide) ?_
  refine e_j_bipush C 97 dX12_init_201 (by decide) ?_
  refine e_j_nmH hm (fun h4 hm => ?_)
  obtain ⟨c5, hm⟩ := e_ak_inv hm
  refine e_j_bast C c5 hm dX12_init_203 (fun hm => ?_)
  refine e_j_dup C dX12_init_204 rfl ?_
  refine e_j_bipush C 28 dX12_init_205 (by decide) ?_
  refine e_j_bipush C 108 dX12_init_207 (by decide) ?_
  refine e_j_nmH hm (fun h6 hm => ?_)
  obtain ⟨c7, hm⟩ := e_ak_inv hm
  refine e_j_bast C c7 hm dX12_init_209 (fun hm => ?_)
  refine e_j_dup C dX12_init_210 rfl ?_
  refine e_j_bipush C 29 dX12_init_211 (by decide) ?_
  refine e_j_bipush C 108 dX12_init_213 (by decide) ?_
  refine e_j_nmH hm (fun h8 hm => ?_)
  obtain ⟨c9, hm⟩ := e_ak_inv hm
  refine e_j_bast C c9 hm dX12_init_215 (fun hm => ?_)
  refine e_j_dup C dX12_init_216 rfl ?_
  refine e_j_bipush C 30 dX12_init_217 (by decide) ?_
  refine e_j_bipush C 32 dX12_init_219 (by decide) ?_
  refine e_j_nmH hm (fun h10 hm => ?_)
  obtain ⟨c11, hm⟩ := e_ak_inv hm
  refine e_j_bast C c11 hm dX12_init_221 (fun hm => ?_)
  refine e_j_dup C dX12_init_222 rfl ?_
  refine e_j_bipush C 31 dX12_init_223 (by decide) ?_
  refine e_j_bipush C 102 dX12_init_225 (by decide) ?_
  refine e_j_nmH hm (fun h12 hm => ?_)
  obtain ⟨c13, hm⟩ := e_ak_inv hm
  refine e_j_bast C c13 hm dX12_init_227 (fun hm => ?_)
  refine e_j_dup C dX12_init_228 rfl ?_
  refine e_j_bipush C 32 dX12_init_229 (by decide) ?_
  refine e_j_bipush C 108 dX12_init_231 (by decide) ?_
  refine e_j_nmH hm (fun h14 hm => ?_)
  obtain ⟨c15, hm⟩ := e_ak_inv hm
  refine e_j_bast C c15 hm dX12_init_233 (fun hm => ?_)
  refine e_j_dup C dX12_init_234 rfl ?_
  refine e_j_bipush C 33 dX12_init_235 (by decide) ?_
  refine e_j_bipush C 111 dX12_init_237 (by decide) ?_
  refine e_j_nmH hm (fun h16 hm => ?_)
  obtain ⟨c17, hm⟩ := e_ak_inv hm
  refine e_j_bast C c17 hm dX12_init_239 (fun hm => ?_)
  refine e_j_dup C dX12_init_240 rfl ?_
  refine e_j_bipush C 34 dX12_init_241 (by decide) ?_
  refine e_j_bipush C 119 dX12_init_243 (by decide) ?_
  refine e_j_nmH hm (fun h18 hm => ?_)
  obtain ⟨c19, hm⟩ := e_ak_inv hm
  refine e_j_bast C c19 hm dX12_init_245 (fun hm => ?_)
  refine e_j_sub (L' := [(0, .ref (G.1 + v0))]) [0] rfl ?_
  exact w_EMod_init_246 C I O hm
theorem w_EMod_init_126 {G : jG} {X : jX} (C : e_jC G X cX12_init 2 RX12 1 70) (I : ∀ Y, X.2 = some Y → (xM Y).name = "<init>") {v0 : Nat} {s0 : Nat} {s1 : Nat} {h : Hp} {out : Hp} (O : (O_EMod_init G X) out) (hm : s_EMod_init_126 v0 s0 s1 h = some out) : e_J G X 126 [(0, .ref (G.1 + v0))] [.ref (G.1 + s0), .ref (G.1 + s1)] h := by
  unfold s_EMod_init_126 at hm
  refine e_j_dup C dX12_init_126 rfl ?_
  refine e_j_bipush C 15 dX12_init_127 (by decide) ?_
  refine e_j_bipush C 111 dX12_init_129 (by decide) ?_
  obtain ⟨c1, hm⟩ := e_ak_inv hm
  refine e_j_bast C c1 hm dX12_init_131 (fun hm => ?_)
  refine e_j_dup C dX12_init_132 rfl ?_
  refine e_j_bipush C 16 dX12_init_133 (by decide) ?_
  refine e_j_bipush C 114 dX12_init_135 (by decide) ?_
  refine e_j_nmH hm (fun h2 hm => ?_)
  obtain ⟨c3, hm⟩ := e_ak_inv hm
  refine e_j_bast C c3 hm dX12_init_137 (fun hm => ?_)
  refine e_j_dup C dX12_init_138 rfl ?_
  refine e_j_bipush C 17 dX12_init_139 (by decide) ?_
  refine e_j_bipush C 32 dX12_init_141 (by decide) ?_
  refine e_j_nmH hm (fun h4 hm => ?_)
  obtain ⟨c5, hm⟩ := e_ak_inv hm
  refine e_j_bast C c5 hm dX12_init_143 (fun hm => ?_)
  refine e_j_dup C dX12_init_144 rfl ?_
  refine e_j_bipush C 18 dX12_init_145 (by decide) ?_
  refine e_j_bipush C 97 dX12_init_147 (by decide) ?_
  refine e_j_nmH hm (fun h6 hm => ?_)
  obtain ⟨c7, hm⟩ := e_ak_inv hm
  refine e_j_bast C c7 hm dX12_init_149 (fun hm => ?_)
  refine e_j_dup C dX12_init_150 rfl ?_
  refine e_j_bipush C 19 dX12_init_151 (by decide) ?_
  refine e_j_bipush C 110 dX12_init_153 (by decide) ?_
  refine e_j_nmH hm (fun h8 hm => ?_)
  obtain ⟨c9, hm⟩ := e_ak_inv hm
  refine e_j_bast C c9 hm dX12_init_155 (fun hm => ?_)
  refine e_j_dup C dX12_init_156 rfl ?_
  refine e_j_bipush C 20 dX12_init_157 (by decide) ?_
  refine e_j_bipush C 100 dX12_init_159 (by decide) ?_
  refine e_j_nmH hm (fun h10 hm => ?_)
  obtain ⟨c11, hm⟩ := e_ak_inv hm
  refine e_j_bast C c11 hm dX12_init_161 (fun hm => ?_)
  refine e_j_dup C dX12_init_162 rfl ?_
  refine e_j_bipush C 21 dX12_init_163 (by decide) ?_
  refine e_j_bipush C 32 dX12_init_165 (by decide) ?_
  refine e_j_nmH hm (fun h12 hm => ?_)
  obtain ⟨c13, hm⟩ := e_ak_inv hm
  refine e_j_bast C c13 hm dX12_init_167 (fun hm => ?_)
  refine e_j_dup C dX12_init_168 rfl ?_
  refine e_j_bipush C 22 dX12_init_169 (by decide) ?_
  refine e_j_bipush C 110 dX12_init_171 (by decide) ?_
  refine e_j_nmH hm (fun h14 hm => ?_)
  obtain ⟨c15, hm⟩ := e_ak_inv hm
  refine e_j_bast C c15 hm dX12_init_173 (fun hm => ?_)
  refine e_j_dup C dX12_init_174 rfl ?_
  refine e_j_bipush C 23 dX12_init_175 (by decide) ?_
  refine e_j_bipush C 111 dX12_init_177 (by decide) ?_
  refine e_j_nmH hm (fun h16 hm => ?_)
  obtain ⟨c17, hm⟩ := e_ak_inv hm
  refine e_j_bast C c17 hm dX12_init_179 (fun hm => ?_)
  refine e_j_dup C dX12_init_180 rfl ?_
  refine e_j_bipush C 24 dX12_init_181 (by decide) ?_
  refine e_j_bipush C 116 dX12_init_183 (by decide) ?_
  refine e_j_nmH hm (fun h18 hm => ?_)
  obtain ⟨c19, hm⟩ := e_ak_inv hm
  refine e_j_bast C c19 hm dX12_init_185 (fun hm => ?_)
  refine e_j_sub (L' := [(0, .ref (G.1 + v0))]) [0] rfl ?_
  exact w_EMod_init_186 C I O hm
theorem w_EMod_init_67 {G : jG} {X : jX} (C : e_jC G X cX12_init 2 RX12 1 70) (I : ∀ Y, X.2 = some Y → (xM Y).name = "<init>") {v0 : Nat} {s0 : Nat} {s1 : Nat} {h : Hp} {out : Hp} (O : (O_EMod_init G X) out) (hm : s_EMod_init_67 v0 s0 s1 h = some out) : e_J G X 67 [(0, .ref (G.1 + v0))] [.ref (G.1 + s0), .ref (G.1 + s1)] h := by
  unfold s_EMod_init_67 at hm
  refine e_j_dup C dX12_init_67 rfl ?_
  refine e_j_iconst C 5 dX12_init_68 (by decide) ?_
  refine e_j_bipush C 32 dX12_init_69 (by decide) ?_
  obtain ⟨c1, hm⟩ := e_ak_inv hm
  refine e_j_bast C c1 hm dX12_init_71 (fun hm => ?_)
  refine e_j_dup C dX12_init_72 rfl ?_
  refine e_j_bipush C 6 dX12_init_73 (by decide) ?_
  refine e_j_bipush C 119 dX12_init_75 (by decide) ?_
  refine e_j_nmH hm (fun h2 hm => ?_)
  obtain ⟨c3, hm⟩ := e_ak_inv hm
  refine e_j_bast C c3 hm dX12_init_77 (fun hm => ?_)
  refine e_j_dup C dX12_init_78 rfl ?_
  refine e_j_bipush C 7 dX12_init_79 (by decide) ?_
  refine e_j_bipush C 104 dX12_init_81 (by decide) ?_
  refine e_j_nmH hm (fun h4 hm => ?_)
  obtain ⟨c5, hm⟩ := e_ak_inv hm
  refine e_j_bast C c5 hm dX12_init_83 (fun hm => ?_)
  refine e_j_dup C dX12_init_84 rfl ?_
  refine e_j_bipush C 8 dX12_init_85 (by decide) ?_
  refine e_j_bipush C 105 dX12_init_87 (by decide) ?_
  refine e_j_nmH hm (fun h6 hm => ?_)
  obtain ⟨c7, hm⟩ := e_ak_inv hm
  refine e_j_bast C c7 hm dX12_init_89 (fun hm => ?_)
  refine e_j_dup C dX12_init_90 rfl ?_
  refine e_j_bipush C 9 dX12_init_91 (by decide) ?_
  refine e_j_bipush C 116 dX12_init_93 (by decide) ?_
  refine e_j_nmH hm (fun h8 hm => ?_)
  obtain ⟨c9, hm⟩ := e_ak_inv hm
  refine e_j_bast C c9 hm dX12_init_95 (fun hm => ?_)
  refine e_j_dup C dX12_init_96 rfl ?_
  refine e_j_bipush C 10 dX12_init_97 (by decide) ?_
  refine e_j_bipush C 101 dX12_init_99 (by decide) ?_
  refine e_j_nmH hm (fun h10 hm => ?_)
  obtain ⟨c11, hm⟩ := e_ak_inv hm
  refine e_j_bast C c11 hm dX12_init_101 (fun hm => ?_)
  refine e_j_dup C dX12_init_102 rfl ?_
  refine e_j_bipush C 11 dX12_init_103 (by decide) ?_
  refine e_j_bipush C 32 dX12_init_105 (by decide) ?_
  refine e_j_nmH hm (fun h12 hm => ?_)
  obtain ⟨c13, hm⟩ := e_ak_inv hm
  refine e_j_bast C c13 hm dX12_init_107 (fun hm => ?_)
  refine e_j_dup C dX12_init_108 rfl ?_
  refine e_j_bipush C 12 dX12_init_109 (by decide) ?_
  refine e_j_bipush C 105 dX12_init_111 (by decide) ?_
  refine e_j_nmH hm (fun h14 hm => ?_)
  obtain ⟨c15, hm⟩ := e_ak_inv hm
  refine e_j_bast C c15 hm dX12_init_113 (fun hm => ?_)
  refine e_j_dup C dX12_init_114 rfl ?_
  refine e_j_bipush C 13 dX12_init_115 (by decide) ?_
  refine e_j_bipush C 102 dX12_init_117 (by decide) ?_
  refine e_j_nmH hm (fun h16 hm => ?_)
  obtain ⟨c17, hm⟩ := e_ak_inv hm
  refine e_j_bast C c17 hm dX12_init_119 (fun hm => ?_)
  refine e_j_dup C dX12_init_120 rfl ?_
  refine e_j_bipush C 14 dX12_init_121 (by decide) ?_
  refine e_j_bipush C 32 dX12_init_123 (by decide) ?_
  refine e_j_nmH hm (fun h18 hm => ?_)
  obtain ⟨c19, hm⟩ := e_ak_inv hm
  refine e_j_bast C c19 hm dX12_init_125 (fun hm => ?_)
  refine e_j_sub (L' := [(0, .ref (G.1 + v0))]) [0] rfl ?_
  exact w_EMod_init_126 C I O hm
theorem w_EMod_init {G : jG} {X : jX} (C : e_jC G X cX12_init 2 RX12 1 70) (I : ∀ Y, X.2 = some Y → (xM Y).name = "<init>") {v0 : Nat} {h : Hp} {out : Hp} (O : (O_EMod_init G X) out) (hm : s_EMod_init v0 h = some out) : e_J G X 0 [(0, .ref (G.1 + v0))] [] h := by
  unfold s_EMod_init at hm
  refine e_j_aload_n C 0 dX12_init_0 rfl rfl ?_
  refine e_j_obj C wd_1324 wd_135 wd_136 (Nat.le_of_ble_eq_true rfl) (Nat.le_of_ble_eq_true rfl) dX12_init_1 ?_
  refine e_j_aload_n C 0 dX12_init_4 rfl rfl ?_
  refine e_j_bipush C 7 dX12_init_5 (by decide) ?_
  refine e_j_newaI C hm wd_255 dX12_init_7 (fun hm => ?_)
  refine e_j_nmH hm (fun h1 hm => ?_)
  obtain ⟨c2, hm⟩ := e_ak_inv hm
  refine e_j_pF C I (o := (some (e_nid h))) f_X12_7 ⟨_, _, _, rfl, rfl⟩ c2 rfl dX12_init_9 ?_
  refine e_j_aload_n C 0 dX12_init_12 rfl rfl ?_
  refine e_j_sipush C 4998 dX12_init_13 (by decide) ?_
  refine e_j_nmH hm (fun h3 hm => ?_)
  refine e_j_newaI C hm wd_255 dX12_init_16 (fun hm => ?_)
  refine e_j_nmH hm (fun h4 hm => ?_)
  obtain ⟨c5, hm⟩ := e_ak_inv hm
  refine e_j_pF C I (o := (some (e_nid h3))) f_X12_20 ⟨_, _, _, rfl, rfl⟩ c5 rfl dX12_init_18 ?_
  refine e_j_aload_n C 0 dX12_init_21 rfl rfl ?_
  refine e_j_sipush C 9996 dX12_init_22 (by decide) ?_
  refine e_j_nmH hm (fun h6 hm => ?_)
  refine e_j_newaI C hm wd_255 dX12_init_25 (fun hm => ?_)
  refine e_j_nmH hm (fun h7 hm => ?_)
  obtain ⟨c8, hm⟩ := e_ak_inv hm
  refine e_j_pF C I (o := (some (e_nid h6))) f_X12_23 ⟨_, _, _, rfl, rfl⟩ c8 rfl dX12_init_27 ?_
  refine e_j_aload_n C 0 dX12_init_30 rfl rfl ?_
  refine e_j_iconst C 2 dX12_init_31 (by decide) ?_
  refine e_j_nmH hm (fun h9 hm => ?_)
  refine e_j_newaZ C hm wd_274 dX12_init_32 (fun hm => ?_)
  refine e_j_nmH hm (fun h10 hm => ?_)
  obtain ⟨c11, hm⟩ := e_ak_inv hm
  refine e_j_pF C I (o := (some (e_nid h9))) f_X12_26 ⟨_, _, _, rfl, rfl⟩ c11 rfl dX12_init_34 ?_
  refine e_j_aload_n C 0 dX12_init_37 rfl rfl ?_
  refine e_j_bipush C 68 dX12_init_38 (by decide) ?_
  refine e_j_nmH hm (fun h12 hm => ?_)
  refine e_j_newaB C hm wd_858 dX12_init_40 (fun hm => ?_)
  refine e_j_dup C dX12_init_42 rfl ?_
  refine e_j_iconst C 0 dX12_init_43 (by decide) ?_
  refine e_j_bipush C 103 dX12_init_44 (by decide) ?_
  refine e_j_nmH hm (fun h13 hm => ?_)
  obtain ⟨c14, hm⟩ := e_ak_inv hm
  refine e_j_bast C c14 hm dX12_init_46 (fun hm => ?_)
  refine e_j_dup C dX12_init_47 rfl ?_
  refine e_j_iconst C 1 dX12_init_48 (by decide) ?_
  refine e_j_bipush C 97 dX12_init_49 (by decide) ?_
  refine e_j_nmH hm (fun h15 hm => ?_)
  obtain ⟨c16, hm⟩ := e_ak_inv hm
  refine e_j_bast C c16 hm dX12_init_51 (fun hm => ?_)
  refine e_j_dup C dX12_init_52 rfl ?_
  refine e_j_iconst C 2 dX12_init_53 (by decide) ?_
  refine e_j_bipush C 105 dX12_init_54 (by decide) ?_
  refine e_j_nmH hm (fun h17 hm => ?_)
  obtain ⟨c18, hm⟩ := e_ak_inv hm
  refine e_j_bast C c18 hm dX12_init_56 (fun hm => ?_)
  refine e_j_dup C dX12_init_57 rfl ?_
  refine e_j_iconst C 3 dX12_init_58 (by decide) ?_
  refine e_j_bipush C 110 dX12_init_59 (by decide) ?_
  refine e_j_nmH hm (fun h19 hm => ?_)
  obtain ⟨c20, hm⟩ := e_ak_inv hm
  refine e_j_bast C c20 hm dX12_init_61 (fun hm => ?_)
  refine e_j_dup C dX12_init_62 rfl ?_
  refine e_j_iconst C 4 dX12_init_63 (by decide) ?_
  refine e_j_bipush C 115 dX12_init_64 (by decide) ?_
  refine e_j_nmH hm (fun h21 hm => ?_)
  obtain ⟨c22, hm⟩ := e_ak_inv hm
  refine e_j_bast C c22 hm dX12_init_66 (fun hm => ?_)
  refine e_j_sub (L' := [(0, .ref (G.1 + v0))]) [0] rfl ?_
  exact w_EMod_init_67 C I O hm
theorem c_EMod_init {G : jG} {l : Launch} {v0 : Nat} {h : Hp} {out : Hp} (hm : s_EMod_init v0 h = some out) : e_mt G l yX12_init cX12_init 2 (none) 1 70 [.ref (G.1 + v0)] h none out :=
  e_mt_of (by decide) (Nat.le_of_ble_eq_true rfl) _ rfl (fun X I C O => w_EMod_init C I O hm)
def s_EReader_init (v0 : Nat) (v1 : Nat) (h : Hp) : Option Hp :=
  nl ((400 : Int32)) <| lt (e_al h 0 (ix ((400 : Int32)))) fun h1 => e_ak h1 v0 103 <| lt (sR h1 v0 1 (some (e_nid h))) fun h3 => nl ((48 : Int32)) <| lt (e_al h3 0 (ix ((48 : Int32)))) fun h4 => e_ak h4 v0 103 <| lt (sR h4 v0 2 (some (e_nid h3))) fun h6 => e_ak h6 v0 103 <| lt (sI h6 v0 3 ((0 : Int32))) fun h8 => e_ak h8 v0 103 <| lt (sI h8 v0 4 ((0 : Int32))) fun h10 => e_ak h10 v0 103 <| lt (sI h10 v0 5 ((0 : Int32))) fun h12 => e_ak h12 v0 103 <| lt (sI h12 v0 6 ((0 : Int32))) fun h14 => e_ak h14 v0 103 <| lt (sI h14 v0 7 ((0 : Int32))) fun h16 => e_ak h16 v0 103 <| lt (sI h16 v0 8 ((0 : Int32))) fun h18 => e_ak h18 v0 103 <| lt (sI h18 v0 9 ((-1 : Int32))) fun h20 => e_ak h20 v0 103 <| some (sR h20 v0 0 (some v1))
def O_EReader_init (G : jG) (X : jX) (out : Hp) : Prop := e_jO G X (none) none out
theorem w_EReader_init {G : jG} {X : jX} (C : e_jC G X cX3_init 2 RX3 1 70) (I : ∀ Y, X.2 = some Y → (xM Y).name = "<init>") {v0 : Nat} {v1 : Nat} {h : Hp} {out : Hp} (O : (O_EReader_init G X) out) (hm : s_EReader_init v0 v1 h = some out) : e_J G X 0 [(0, .ref (G.1 + v0)), (1, .ref (G.1 + v1))] [] h := by
  unfold s_EReader_init at hm
  refine e_j_aload_n C 0 dX3_init_0 rfl rfl ?_
  refine e_j_obj C wd_280 wd_135 wd_136 (Nat.le_of_ble_eq_true rfl) (Nat.le_of_ble_eq_true rfl) dX3_init_1 ?_
  refine e_j_aload_n C 0 dX3_init_4 rfl rfl ?_
  refine e_j_sipush C 400 dX3_init_5 (by decide) ?_
  refine e_j_newaI C hm wd_255 dX3_init_8 (fun hm => ?_)
  refine e_j_nmH hm (fun h1 hm => ?_)
  obtain ⟨c2, hm⟩ := e_ak_inv hm
  refine e_j_pF C I (o := (some (e_nid h))) f_X3_9 ⟨_, _, _, rfl, rfl⟩ c2 rfl dX3_init_10 ?_
  refine e_j_aload_n C 0 dX3_init_13 rfl rfl ?_
  refine e_j_bipush C 48 dX3_init_14 (by decide) ?_
  refine e_j_nmH hm (fun h3 hm => ?_)
  refine e_j_newaI C hm wd_255 dX3_init_16 (fun hm => ?_)
  refine e_j_nmH hm (fun h4 hm => ?_)
  obtain ⟨c5, hm⟩ := e_ak_inv hm
  refine e_j_pF C I (o := (some (e_nid h3))) f_X3_17 ⟨_, _, _, rfl, rfl⟩ c5 rfl dX3_init_18 ?_
  refine e_j_aload_n C 0 dX3_init_21 rfl rfl ?_
  refine e_j_iconst C 0 dX3_init_22 (by decide) ?_
  refine e_j_nmH hm (fun h6 hm => ?_)
  obtain ⟨c7, hm⟩ := e_ak_inv hm
  refine e_j_pI C f_X3_20 c7 dX3_init_23 ?_
  refine e_j_aload_n C 0 dX3_init_26 rfl rfl ?_
  refine e_j_iconst C 0 dX3_init_27 (by decide) ?_
  refine e_j_nmH hm (fun h8 hm => ?_)
  obtain ⟨c9, hm⟩ := e_ak_inv hm
  refine e_j_pI C f_X3_24 c9 dX3_init_28 ?_
  refine e_j_aload_n C 0 dX3_init_31 rfl rfl ?_
  refine e_j_iconst C 0 dX3_init_32 (by decide) ?_
  refine e_j_nmH hm (fun h10 hm => ?_)
  obtain ⟨c11, hm⟩ := e_ak_inv hm
  refine e_j_pI C f_X3_27 c11 dX3_init_33 ?_
  refine e_j_aload_n C 0 dX3_init_36 rfl rfl ?_
  refine e_j_iconst C 0 dX3_init_37 (by decide) ?_
  refine e_j_nmH hm (fun h12 hm => ?_)
  obtain ⟨c13, hm⟩ := e_ak_inv hm
  refine e_j_pI C f_X3_30 c13 dX3_init_38 ?_
  refine e_j_aload_n C 0 dX3_init_41 rfl rfl ?_
  refine e_j_iconst C 0 dX3_init_42 (by decide) ?_
  refine e_j_nmH hm (fun h14 hm => ?_)
  obtain ⟨c15, hm⟩ := e_ak_inv hm
  refine e_j_pI C f_X3_33 c15 dX3_init_43 ?_
  refine e_j_aload_n C 0 dX3_init_46 rfl rfl ?_
  refine e_j_iconst C 0 dX3_init_47 (by decide) ?_
  refine e_j_nmH hm (fun h16 hm => ?_)
  obtain ⟨c17, hm⟩ := e_ak_inv hm
  refine e_j_pI C f_X3_36 c17 dX3_init_48 ?_
  refine e_j_aload_n C 0 dX3_init_51 rfl rfl ?_
  refine e_j_iconst C (-1 : Int32) dX3_init_52 (by decide) ?_
  refine e_j_nmH hm (fun h18 hm => ?_)
  obtain ⟨c19, hm⟩ := e_ak_inv hm
  refine e_j_pI C f_X3_39 c19 dX3_init_53 ?_
  refine e_j_aload_n C 0 dX3_init_56 rfl rfl ?_
  refine e_j_aload_n C 1 dX3_init_57 rfl rfl ?_
  refine e_j_nmH hm (fun h20 hm => ?_)
  obtain ⟨c21, hm⟩ := e_ak_inv hm
  refine e_j_pF C I (o := (some v1)) f_X3_42 ⟨_, _, _, rfl, rfl⟩ c21 rfl dX3_init_58 ?_
  obtain rfl := Option.some.inj hm
  exact e_j_vret C O dX3_init_61
theorem c_EReader_init {G : jG} {l : Launch} {v0 : Nat} {v1 : Nat} {h : Hp} {out : Hp} (hm : s_EReader_init v0 v1 h = some out) : e_mt G l yX3_init cX3_init 2 (none) 1 70 [.ref (G.1 + v0), .ref (G.1 + v1)] h none out :=
  e_mt_of (by decide) (Nat.le_of_ble_eq_true rfl) _ rfl (fun X I C O => w_EReader_init C I O hm)
def s_ERule_init (v0 : Nat) (v1 : Nat) (h : Hp) : Option Hp :=
  nl ((1441 : Int32)) <| lt (e_al h 0 (ix ((1441 : Int32)))) fun h1 => e_ak h1 v0 104 <| lt (sR h1 v0 1 (some (e_nid h))) fun h3 => e_ak h3 v0 104 <| lt (sI h3 v0 2 ((0 : Int32))) fun h5 => e_ak h5 v0 104 <| lt (sI h5 v0 3 ((0 : Int32))) fun h7 => e_ak h7 v0 104 <| lt (sI h7 v0 4 ((0 : Int32))) fun h9 => e_ak h9 v0 104 <| some (sR h9 v0 0 (some v1))
def O_ERule_init (G : jG) (X : jX) (out : Hp) : Prop := e_jO G X (none) none out
theorem w_ERule_init {G : jG} {X : jX} (C : e_jC G X cX4_init 2 RX4 1 70) (I : ∀ Y, X.2 = some Y → (xM Y).name = "<init>") {v0 : Nat} {v1 : Nat} {h : Hp} {out : Hp} (O : (O_ERule_init G X) out) (hm : s_ERule_init v0 v1 h = some out) : e_J G X 0 [(0, .ref (G.1 + v0)), (1, .ref (G.1 + v1))] [] h := by
  unfold s_ERule_init at hm
  refine e_j_aload_n C 0 dX4_init_0 rfl rfl ?_
  refine e_j_obj C wd_530 wd_135 wd_136 (Nat.le_of_ble_eq_true rfl) (Nat.le_of_ble_eq_true rfl) dX4_init_1 ?_
  refine e_j_aload_n C 0 dX4_init_4 rfl rfl ?_
  refine e_j_sipush C 1441 dX4_init_5 (by decide) ?_
  refine e_j_newaI C hm wd_255 dX4_init_8 (fun hm => ?_)
  refine e_j_nmH hm (fun h1 hm => ?_)
  obtain ⟨c2, hm⟩ := e_ak_inv hm
  refine e_j_pF C I (o := (some (e_nid h))) f_X4_9 ⟨_, _, _, rfl, rfl⟩ c2 rfl dX4_init_10 ?_
  refine e_j_aload_n C 0 dX4_init_13 rfl rfl ?_
  refine e_j_iconst C 0 dX4_init_14 (by decide) ?_
  refine e_j_nmH hm (fun h3 hm => ?_)
  obtain ⟨c4, hm⟩ := e_ak_inv hm
  refine e_j_pI C f_X4_15 c4 dX4_init_15 ?_
  refine e_j_aload_n C 0 dX4_init_18 rfl rfl ?_
  refine e_j_iconst C 0 dX4_init_19 (by decide) ?_
  refine e_j_nmH hm (fun h5 hm => ?_)
  obtain ⟨c6, hm⟩ := e_ak_inv hm
  refine e_j_pZ C f_X4_19 c6 (by decide) dX4_init_20 ?_
  refine e_j_aload_n C 0 dX4_init_23 rfl rfl ?_
  refine e_j_iconst C 0 dX4_init_24 (by decide) ?_
  refine e_j_nmH hm (fun h7 hm => ?_)
  obtain ⟨c8, hm⟩ := e_ak_inv hm
  refine e_j_pZ C f_X4_23 c8 (by decide) dX4_init_25 ?_
  refine e_j_aload_n C 0 dX4_init_28 rfl rfl ?_
  refine e_j_aload_n C 1 dX4_init_29 rfl rfl ?_
  refine e_j_nmH hm (fun h9 hm => ?_)
  obtain ⟨c10, hm⟩ := e_ak_inv hm
  refine e_j_pF C I (o := (some v1)) f_X4_26 ⟨_, _, _, rfl, rfl⟩ c10 rfl dX4_init_30 ?_
  obtain rfl := Option.some.inj hm
  exact e_j_vret C O dX4_init_33
theorem c_ERule_init {G : jG} {l : Launch} {v0 : Nat} {v1 : Nat} {h : Hp} {out : Hp} (hm : s_ERule_init v0 v1 h = some out) : e_mt G l yX4_init cX4_init 2 (none) 1 70 [.ref (G.1 + v0), .ref (G.1 + v1)] h none out :=
  e_mt_of (by decide) (Nat.le_of_ble_eq_true rfl) _ rfl (fun X I C O => w_ERule_init C I O hm)
def s_ESoundings_init (v0 : Nat) (v1 : Nat) (v2 : Nat) (h : Hp) : Option Hp :=
  nl ((12 : Int32)) <| lt (e_al h 0 (ix ((12 : Int32)))) fun h1 => e_ak h1 v0 105 <| lt (sR h1 v0 2 (some (e_nid h))) fun h3 => nl ((12 : Int32)) <| lt (e_al h3 0 (ix ((12 : Int32)))) fun h4 => e_ak h4 v0 105 <| lt (sR h4 v0 3 (some (e_nid h3))) fun h6 => nl ((12 : Int32)) <| lt (e_al h6 0 (ix ((12 : Int32)))) fun h7 => e_ak h7 v0 105 <| lt (sR h7 v0 4 (some (e_nid h6))) fun h9 => e_ak h9 v0 105 <| lt (sI h9 v0 5 ((-1 : Int32))) fun h11 => e_ak h11 v0 105 <| lt (sI h11 v0 6 ((0 : Int32))) fun h13 => e_ak h13 v0 105 <| lt (sI h13 v0 7 ((-1 : Int32))) fun h15 => e_ak h15 v0 105 <| lt (sI h15 v0 8 ((-1 : Int32))) fun h17 => e_ak h17 v0 105 <| lt (sI h17 v0 9 ((-1 : Int32))) fun h19 => e_ak h19 v0 105 <| lt (sI h19 v0 10 ((-1 : Int32))) fun h21 => e_ak h21 v0 105 <| lt (sI h21 v0 11 ((-1 : Int32))) fun h23 => e_ak h23 v0 105 <| lt (sR h23 v0 0 (some v1)) fun h25 => e_ak h25 v0 105 <| some (sR h25 v0 1 (some v2))
def O_ESoundings_init (G : jG) (X : jX) (out : Hp) : Prop := e_jO G X (none) none out
theorem w_ESoundings_init {G : jG} {X : jX} (C : e_jC G X cX5_init 3 RX5 1 70) (I : ∀ Y, X.2 = some Y → (xM Y).name = "<init>") {v0 : Nat} {v1 : Nat} {v2 : Nat} {h : Hp} {out : Hp} (O : (O_ESoundings_init G X) out) (hm : s_ESoundings_init v0 v1 v2 h = some out) : e_J G X 0 [(0, .ref (G.1 + v0)), (1, .ref (G.1 + v1)), (2, .ref (G.1 + v2))] [] h := by
  unfold s_ESoundings_init at hm
  refine e_j_aload_n C 0 dX5_init_0 rfl rfl ?_
  refine e_j_obj C wd_480 wd_135 wd_136 (Nat.le_of_ble_eq_true rfl) (Nat.le_of_ble_eq_true rfl) dX5_init_1 ?_
  refine e_j_aload_n C 0 dX5_init_4 rfl rfl ?_
  refine e_j_bipush C 12 dX5_init_5 (by decide) ?_
  refine e_j_newaI C hm wd_255 dX5_init_7 (fun hm => ?_)
  refine e_j_nmH hm (fun h1 hm => ?_)
  obtain ⟨c2, hm⟩ := e_ak_inv hm
  refine e_j_pF C I (o := (some (e_nid h))) f_X5_9 ⟨_, _, _, rfl, rfl⟩ c2 rfl dX5_init_9 ?_
  refine e_j_aload_n C 0 dX5_init_12 rfl rfl ?_
  refine e_j_bipush C 12 dX5_init_13 (by decide) ?_
  refine e_j_nmH hm (fun h3 hm => ?_)
  refine e_j_newaI C hm wd_255 dX5_init_15 (fun hm => ?_)
  refine e_j_nmH hm (fun h4 hm => ?_)
  obtain ⟨c5, hm⟩ := e_ak_inv hm
  refine e_j_pF C I (o := (some (e_nid h3))) f_X5_15 ⟨_, _, _, rfl, rfl⟩ c5 rfl dX5_init_17 ?_
  refine e_j_aload_n C 0 dX5_init_20 rfl rfl ?_
  refine e_j_bipush C 12 dX5_init_21 (by decide) ?_
  refine e_j_nmH hm (fun h6 hm => ?_)
  refine e_j_newaI C hm wd_255 dX5_init_23 (fun hm => ?_)
  refine e_j_nmH hm (fun h7 hm => ?_)
  obtain ⟨c8, hm⟩ := e_ak_inv hm
  refine e_j_pF C I (o := (some (e_nid h6))) f_X5_18 ⟨_, _, _, rfl, rfl⟩ c8 rfl dX5_init_25 ?_
  refine e_j_aload_n C 0 dX5_init_28 rfl rfl ?_
  refine e_j_iconst C (-1 : Int32) dX5_init_29 (by decide) ?_
  refine e_j_nmH hm (fun h9 hm => ?_)
  obtain ⟨c10, hm⟩ := e_ak_inv hm
  refine e_j_pI C f_X5_21 c10 dX5_init_30 ?_
  refine e_j_aload_n C 0 dX5_init_33 rfl rfl ?_
  refine e_j_iconst C 0 dX5_init_34 (by decide) ?_
  refine e_j_nmH hm (fun h11 hm => ?_)
  obtain ⟨c12, hm⟩ := e_ak_inv hm
  refine e_j_pI C f_X5_25 c12 dX5_init_35 ?_
  refine e_j_aload_n C 0 dX5_init_38 rfl rfl ?_
  refine e_j_iconst C (-1 : Int32) dX5_init_39 (by decide) ?_
  refine e_j_nmH hm (fun h13 hm => ?_)
  obtain ⟨c14, hm⟩ := e_ak_inv hm
  refine e_j_pI C f_X5_28 c14 dX5_init_40 ?_
  refine e_j_aload_n C 0 dX5_init_43 rfl rfl ?_
  refine e_j_iconst C (-1 : Int32) dX5_init_44 (by decide) ?_
  refine e_j_nmH hm (fun h15 hm => ?_)
  obtain ⟨c16, hm⟩ := e_ak_inv hm
  refine e_j_pI C f_X5_31 c16 dX5_init_45 ?_
  refine e_j_aload_n C 0 dX5_init_48 rfl rfl ?_
  refine e_j_iconst C (-1 : Int32) dX5_init_49 (by decide) ?_
  refine e_j_nmH hm (fun h17 hm => ?_)
  obtain ⟨c18, hm⟩ := e_ak_inv hm
  refine e_j_pI C f_X5_34 c18 dX5_init_50 ?_
  refine e_j_aload_n C 0 dX5_init_53 rfl rfl ?_
  refine e_j_iconst C (-1 : Int32) dX5_init_54 (by decide) ?_
  refine e_j_nmH hm (fun h19 hm => ?_)
  obtain ⟨c20, hm⟩ := e_ak_inv hm
  refine e_j_pI C f_X5_37 c20 dX5_init_55 ?_
  refine e_j_aload_n C 0 dX5_init_58 rfl rfl ?_
  refine e_j_iconst C (-1 : Int32) dX5_init_59 (by decide) ?_
  refine e_j_nmH hm (fun h21 hm => ?_)
  obtain ⟨c22, hm⟩ := e_ak_inv hm
  refine e_j_pI C f_X5_40 c22 dX5_init_60 ?_
  refine e_j_aload_n C 0 dX5_init_63 rfl rfl ?_
  refine e_j_aload_n C 1 dX5_init_64 rfl rfl ?_
  refine e_j_nmH hm (fun h23 hm => ?_)
  obtain ⟨c24, hm⟩ := e_ak_inv hm
  refine e_j_pF C I (o := (some v1)) f_X5_43 ⟨_, _, _, rfl, rfl⟩ c24 rfl dX5_init_65 ?_
  refine e_j_aload_n C 0 dX5_init_68 rfl rfl ?_
  refine e_j_aload_n C 2 dX5_init_69 rfl rfl ?_
  refine e_j_nmH hm (fun h25 hm => ?_)
  obtain ⟨c26, hm⟩ := e_ak_inv hm
  refine e_j_pF C I (o := (some v2)) f_X5_47 ⟨_, _, _, rfl, rfl⟩ c26 rfl dX5_init_70 ?_
  obtain rfl := Option.some.inj hm
  exact e_j_vret C O dX5_init_73
theorem c_ESoundings_init {G : jG} {l : Launch} {v0 : Nat} {v1 : Nat} {v2 : Nat} {h : Hp} {out : Hp} (hm : s_ESoundings_init v0 v1 v2 h = some out) : e_mt G l yX5_init cX5_init 3 (none) 1 70 [.ref (G.1 + v0), .ref (G.1 + v1), .ref (G.1 + v2)] h none out :=
  e_mt_of (by decide) (Nat.le_of_ble_eq_true rfl) _ rfl (fun X I C O => w_ESoundings_init C I O hm)
def s_EState_init_146 (v0 : Nat) (v1 : Int32) (h : Hp) : Option ((Nat × Int32 × Hp) ⊕ Hp) :=
  e_ak h v0 106 <| nn (e_rf h v0 1) fun r2 => e_ak h r2 0 <| if (nI (e_ln h r2)) ≤ v1 then
    e_ak h v0 106 <| nn (e_rf h v0 3) fun r5 => (s_EArr_fillI r5 ((1 : Int32)) h).bind fun u6 => some (.inr u6)
  else
    e_ak h v0 106 <| nn (e_rf h v0 1) fun r8 => ib (z_rem v1 ((3 : Int32))) 3 <| e_ak h r8 0 <| ib v1 (e_ln h r8) <| some (.inl (v0, (v1 + (1 : Int32)), (sI h r8 (ix v1) ([0, 720, 0].getD (ix (z_rem v1 ((3 : Int32)))) 0))))
def s_EState_init (v0 : Nat) (h : Hp) : Option Hp :=
  nl ((6 : Int32)) <| lt (e_al h 0 (ix ((6 : Int32)))) fun h1 => e_ak h1 v0 106 <| lt (sR h1 v0 0 (some (e_nid h))) fun h3 => nl ((24 : Int32)) <| lt (e_al h3 0 (ix ((24 : Int32)))) fun h4 => e_ak h4 v0 106 <| lt (sR h4 v0 1 (some (e_nid h3))) fun h6 => lt (e_tf h6) fun h7 => e_ak h7 v0 106 <| lt (sR h7 v0 2 (some (e_nid h6))) fun h9 => nl ((50 : Int32)) <| lt (e_al h9 0 (ix ((50 : Int32)))) fun h10 => e_ak h10 v0 106 <| lt (sR h10 v0 3 (some (e_nid h9))) fun h12 => nl ((6 : Int32)) <| lt (e_al h12 11 (ix ((6 : Int32)))) fun h13 => e_ak h13 v0 106 <| lt (sR h13 v0 4 (some (e_nid h12))) fun h15 => nl ((6 : Int32)) <| lt (e_al h15 0 (ix ((6 : Int32)))) fun h16 => e_ak h16 v0 106 <| lt (sR h16 v0 5 (some (e_nid h15))) fun h18 => nl ((6 : Int32)) <| lt (e_al h18 0 (ix ((6 : Int32)))) fun h19 => e_ak h19 v0 106 <| lt (sR h19 v0 6 (some (e_nid h18))) fun h21 => nl ((40 : Int32)) <| lt (e_al h21 0 (ix ((40 : Int32)))) fun h22 => e_ak h22 v0 106 <| lt (sR h22 v0 7 (some (e_nid h21))) fun h24 => nl ((6 : Int32)) <| lt (e_al h24 0 (ix ((6 : Int32)))) fun h25 => e_ak h25 v0 106 <| lt (sR h25 v0 8 (some (e_nid h24))) fun h27 => nl ((6 : Int32)) <| lt (e_al h27 0 (ix ((6 : Int32)))) fun h28 => e_ak h28 v0 106 <| lt (sR h28 v0 9 (some (e_nid h27))) fun h30 => nl ((6 : Int32)) <| lt (e_al h30 0 (ix ((6 : Int32)))) fun h31 => e_ak h31 v0 106 <| lt (sR h31 v0 10 (some (e_nid h30))) fun h33 => nl ((12 : Int32)) <| lt (e_al h33 0 (ix ((12 : Int32)))) fun h34 => e_ak h34 v0 106 <| lt (sR h34 v0 11 (some (e_nid h33))) fun h36 => nl ((12 : Int32)) <| lt (e_al h36 0 (ix ((12 : Int32)))) fun h37 => e_ak h37 v0 106 <| lt (sR h37 v0 12 (some (e_nid h36))) fun h39 => e_ak h39 v0 106 <| lt (sI h39 v0 13 ((0 : Int32))) fun h41 => e_ak h41 v0 106 <| lt (sI h41 v0 14 ((-1 : Int32))) fun h43 => e_ak h43 v0 106 <| lt (sI h43 v0 15 ((0 : Int32))) fun h45 => e_ak h45 v0 106 <| lt (sI h45 v0 16 ((0 : Int32))) fun h47 => e_ak h47 v0 106 <| lt (sI h47 v0 17 ((0 : Int32))) fun h49 => e_ak h49 v0 106 <| lpc (fun q => s_EState_init_146 q.1 q.2.1 q.2.2) (v0, ((0 : Int32)), (sI h49 v0 18 ((0 : Int32))))
def O_EState_init (G : jG) (X : jX) (out : Hp) : Prop := e_jO G X (none) none out
def P_EState_init_146 (G : jG) (X : jX) (q : Nat × Int32 × Hp) : Prop := e_J G X 146 [(0, .ref (G.1 + q.1)), (1, .int q.2.1)] [] q.2.2
def O_EState_init_146 (G : jG) (X : jX) (t : ((Nat × Int32 × Hp) ⊕ Hp)) : Prop := Sum.elim (P_EState_init_146 G X) (O_EState_init G X) t
theorem w_EState_init_146 {G : jG} {X : jX} (C : e_jC G X cX6_init 2 RX6 2 93) (I : ∀ Y, X.2 = some Y → (xM Y).name = "<init>") {v0 : Nat} {v1 : Int32} {h : Hp} {out : ((Nat × Int32 × Hp) ⊕ Hp)} (O : (O_EState_init_146 G X) out) (hm : s_EState_init_146 v0 v1 h = some out) : e_J G X 146 [(0, .ref (G.1 + v0)), (1, .int v1)] [] h := by
  unfold s_EState_init_146 at hm
  refine e_j_iload_n C 1 dX6_init_146 rfl rfl ?_
  refine e_j_aload_n C 0 dX6_init_147 rfl rfl ?_
  obtain ⟨c1, hm⟩ := e_ak_inv hm
  refine e_j_gN C f_X6_15 c1 hm dX6_init_148 (fun r2 hm => ?_)
  obtain ⟨c3, hm⟩ := e_ak_inv hm
  refine e_j_alen C (nI (e_ln h r2)) c3 rfl dX6_init_151 ?_
  refine e_j_if_icmpge C 174 dX6_init_152 (by decide) hm (fun hm => ?_) (fun hm => ?_)
  · refine e_j_aload_n C 0 dX6_init_174 rfl rfl ?_
    obtain ⟨c4, hm⟩ := e_ak_inv hm
    refine e_j_gN C f_X6_29 c4 hm dX6_init_175 (fun r5 hm => ?_)
    refine e_j_iconst C 1 dX6_init_178 (by decide) ?_
    refine e_j_cS C l_X6_84 [.ref (G.1 + r5), .int ((1 : Int32))] [] (fun _ => none) (fun u6 => u6) (fun u6 => []) hm (fun l u hu => c_EArr_fillI hu) rfl (Nat.le_of_ble_eq_true rfl) rfl (Nat.le_of_ble_eq_true rfl) (Nat.le_of_ble_eq_true rfl) (fun _ => rfl) dX6_init_179 (fun u6 hm => ?_)
    obtain rfl := Option.some.inj hm
    exact e_j_vret C O dX6_init_182
  · refine e_j_aload_n C 0 dX6_init_155 rfl rfl ?_
    obtain ⟨c7, hm⟩ := e_ak_inv hm
    refine e_j_gN C f_X6_15 c7 hm dX6_init_156 (fun r8 hm => ?_)
    refine e_j_iload_n C 1 dX6_init_159 rfl rfl ?_
    refine e_j_gsN C (i := 0) (host := "SlackRace") rfl (by decide +kernel) dX6_init_160 ?_
    refine e_j_iload_n C 1 dX6_init_163 rfl rfl ?_
    refine e_j_iconst C 3 dX6_init_164 (by decide) ?_
    refine e_j_irem C dX6_init_165 (by decide) ?_
    refine e_j_sald C (a := 0) rfl rfl hm dX6_init_166 (fun hm => ?_)
    obtain ⟨c9, hm⟩ := e_ak_inv hm
    refine e_j_iast C c9 hm dX6_init_167 (fun hm => ?_)
    refine e_j_iinc C 1 [(1, .int (v1 + (1 : Int32))), (0, .ref (G.1 + v0))] dX6_init_168 rfl (add_lit (by decide)) (by decide) rfl ?_
    refine e_j_goto C 146 dX6_init_171 (by decide) ?_
    obtain rfl := Option.some.inj hm
    refine e_j_sub (L' := [(0, .ref (G.1 + v0)), (1, .int (v1 + (1 : Int32)))]) [1, 0] rfl ?_
    exact O
theorem k_EState_init_146 {G : jG} {X : jX} (C : e_jC G X cX6_init 2 RX6 2 93) (I : ∀ Y, X.2 = some Y → (xM Y).name = "<init>") {v0 : Nat} {v1 : Int32} {h : Hp} {out : Hp} (O : (O_EState_init G X) out) (hm : lpc (fun q => s_EState_init_146 q.1 q.2.1 q.2.2) (v0, v1, h) = some out) : e_J G X 146 [(0, .ref (G.1 + v0)), (1, .int v1)] [] h :=
  lpc_ok (P := P_EState_init_146 G X) (O := (O_EState_init G X)) (fun q r hm O => w_EState_init_146 C I O hm) hm O
theorem w_EState_init {G : jG} {X : jX} (C : e_jC G X cX6_init 2 RX6 2 93) (I : ∀ Y, X.2 = some Y → (xM Y).name = "<init>") {v0 : Nat} {h : Hp} {out : Hp} (O : (O_EState_init G X) out) (hm : s_EState_init v0 h = some out) : e_J G X 0 [(0, .ref (G.1 + v0))] [] h := by
  unfold s_EState_init at hm
  refine e_j_aload_n C 0 dX6_init_0 rfl rfl ?_
  refine e_j_obj C wd_142 wd_135 wd_136 (Nat.le_of_ble_eq_true rfl) (Nat.le_of_ble_eq_true rfl) dX6_init_1 ?_
  refine e_j_aload_n C 0 dX6_init_4 rfl rfl ?_
  refine e_j_bipush C 6 dX6_init_5 (by decide) ?_
  refine e_j_newaI C hm wd_255 dX6_init_7 (fun hm => ?_)
  refine e_j_nmH hm (fun h1 hm => ?_)
  obtain ⟨c2, hm⟩ := e_ak_inv hm
  refine e_j_pF C I (o := (some (e_nid h))) f_X6_9 ⟨_, _, _, rfl, rfl⟩ c2 rfl dX6_init_9 ?_
  refine e_j_aload_n C 0 dX6_init_12 rfl rfl ?_
  refine e_j_bipush C 24 dX6_init_13 (by decide) ?_
  refine e_j_nmH hm (fun h3 hm => ?_)
  refine e_j_newaI C hm wd_255 dX6_init_15 (fun hm => ?_)
  refine e_j_nmH hm (fun h4 hm => ?_)
  obtain ⟨c5, hm⟩ := e_ak_inv hm
  refine e_j_pF C I (o := (some (e_nid h3))) f_X6_15 ⟨_, _, _, rfl, rfl⟩ c5 rfl dX6_init_17 ?_
  refine e_j_aload_n C 0 dX6_init_20 rfl rfl ?_
  refine e_j_gsN C (i := 5) (host := "SlackRace") rfl (by decide +kernel) dX6_init_21 ?_
  refine e_j_nmH hm (fun h6 hm => ?_)
  refine e_j_cloneS C wd_145 wd_146 wd_147 wd_148 wd_149 (by decide +kernel) (Nat.le_of_ble_eq_true rfl) (Nat.le_of_ble_eq_true rfl) dX6_init_24 ?_
  refine e_j_castI C e_nd_tf wd_151 dX6_init_27 ?_
  refine e_j_nmH hm (fun h7 hm => ?_)
  obtain ⟨c8, hm⟩ := e_ak_inv hm
  refine e_j_pF C I (o := (some (e_nid h6))) f_X6_26 ⟨_, _, _, rfl, rfl⟩ c8 rfl dX6_init_30 ?_
  refine e_j_aload_n C 0 dX6_init_33 rfl rfl ?_
  refine e_j_bipush C 50 dX6_init_34 (by decide) ?_
  refine e_j_nmH hm (fun h9 hm => ?_)
  refine e_j_newaI C hm wd_255 dX6_init_36 (fun hm => ?_)
  refine e_j_nmH hm (fun h10 hm => ?_)
  obtain ⟨c11, hm⟩ := e_ak_inv hm
  refine e_j_pF C I (o := (some (e_nid h9))) f_X6_29 ⟨_, _, _, rfl, rfl⟩ c11 rfl dX6_init_38 ?_
  refine e_j_aload_n C 0 dX6_init_41 rfl rfl ?_
  refine e_j_bipush C 6 dX6_init_42 (by decide) ?_
  refine e_j_nmH hm (fun h12 hm => ?_)
  refine e_j_anew C (ci := 1) (p := 5) hm wd_152 (fun Y y => (C Y y).kn.2.2.2) (by decide) rfl dX6_init_44 (fun hm => ?_)
  refine e_j_nmH hm (fun h13 hm => ?_)
  obtain ⟨c14, hm⟩ := e_ak_inv hm
  refine e_j_pF C I (o := (some (e_nid h12))) f_X6_34 ⟨_, _, _, rfl, rfl⟩ c14 rfl dX6_init_47 ?_
  refine e_j_aload_n C 0 dX6_init_50 rfl rfl ?_
  refine e_j_bipush C 6 dX6_init_51 (by decide) ?_
  refine e_j_nmH hm (fun h15 hm => ?_)
  refine e_j_newaI C hm wd_255 dX6_init_53 (fun hm => ?_)
  refine e_j_nmH hm (fun h16 hm => ?_)
  obtain ⟨c17, hm⟩ := e_ak_inv hm
  refine e_j_pF C I (o := (some (e_nid h15))) f_X6_38 ⟨_, _, _, rfl, rfl⟩ c17 rfl dX6_init_55 ?_
  refine e_j_aload_n C 0 dX6_init_58 rfl rfl ?_
  refine e_j_bipush C 6 dX6_init_59 (by decide) ?_
  refine e_j_nmH hm (fun h18 hm => ?_)
  refine e_j_newaI C hm wd_255 dX6_init_61 (fun hm => ?_)
  refine e_j_nmH hm (fun h19 hm => ?_)
  obtain ⟨c20, hm⟩ := e_ak_inv hm
  refine e_j_pF C I (o := (some (e_nid h18))) f_X6_41 ⟨_, _, _, rfl, rfl⟩ c20 rfl dX6_init_63 ?_
  refine e_j_aload_n C 0 dX6_init_66 rfl rfl ?_
  refine e_j_bipush C 40 dX6_init_67 (by decide) ?_
  refine e_j_nmH hm (fun h21 hm => ?_)
  refine e_j_newaI C hm wd_255 dX6_init_69 (fun hm => ?_)
  refine e_j_nmH hm (fun h22 hm => ?_)
  obtain ⟨c23, hm⟩ := e_ak_inv hm
  refine e_j_pF C I (o := (some (e_nid h21))) f_X6_44 ⟨_, _, _, rfl, rfl⟩ c23 rfl dX6_init_71 ?_
  refine e_j_aload_n C 0 dX6_init_74 rfl rfl ?_
  refine e_j_bipush C 6 dX6_init_75 (by decide) ?_
  refine e_j_nmH hm (fun h24 hm => ?_)
  refine e_j_newaI C hm wd_255 dX6_init_77 (fun hm => ?_)
  refine e_j_nmH hm (fun h25 hm => ?_)
  obtain ⟨c26, hm⟩ := e_ak_inv hm
  refine e_j_pF C I (o := (some (e_nid h24))) f_X6_47 ⟨_, _, _, rfl, rfl⟩ c26 rfl dX6_init_79 ?_
  refine e_j_aload_n C 0 dX6_init_82 rfl rfl ?_
  refine e_j_bipush C 6 dX6_init_83 (by decide) ?_
  refine e_j_nmH hm (fun h27 hm => ?_)
  refine e_j_newaI C hm wd_255 dX6_init_85 (fun hm => ?_)
  refine e_j_nmH hm (fun h28 hm => ?_)
  obtain ⟨c29, hm⟩ := e_ak_inv hm
  refine e_j_pF C I (o := (some (e_nid h27))) f_X6_50 ⟨_, _, _, rfl, rfl⟩ c29 rfl dX6_init_87 ?_
  refine e_j_aload_n C 0 dX6_init_90 rfl rfl ?_
  refine e_j_bipush C 6 dX6_init_91 (by decide) ?_
  refine e_j_nmH hm (fun h30 hm => ?_)
  refine e_j_newaI C hm wd_255 dX6_init_93 (fun hm => ?_)
  refine e_j_nmH hm (fun h31 hm => ?_)
  obtain ⟨c32, hm⟩ := e_ak_inv hm
  refine e_j_pF C I (o := (some (e_nid h30))) f_X6_53 ⟨_, _, _, rfl, rfl⟩ c32 rfl dX6_init_95 ?_
  refine e_j_aload_n C 0 dX6_init_98 rfl rfl ?_
  refine e_j_bipush C 12 dX6_init_99 (by decide) ?_
  refine e_j_nmH hm (fun h33 hm => ?_)
  refine e_j_newaI C hm wd_255 dX6_init_101 (fun hm => ?_)
  refine e_j_nmH hm (fun h34 hm => ?_)
  obtain ⟨c35, hm⟩ := e_ak_inv hm
  refine e_j_pF C I (o := (some (e_nid h33))) f_X6_56 ⟨_, _, _, rfl, rfl⟩ c35 rfl dX6_init_103 ?_
  refine e_j_aload_n C 0 dX6_init_106 rfl rfl ?_
  refine e_j_bipush C 12 dX6_init_107 (by decide) ?_
  refine e_j_nmH hm (fun h36 hm => ?_)
  refine e_j_newaI C hm wd_255 dX6_init_109 (fun hm => ?_)
  refine e_j_nmH hm (fun h37 hm => ?_)
  obtain ⟨c38, hm⟩ := e_ak_inv hm
  refine e_j_pF C I (o := (some (e_nid h36))) f_X6_59 ⟨_, _, _, rfl, rfl⟩ c38 rfl dX6_init_111 ?_
  refine e_j_aload_n C 0 dX6_init_114 rfl rfl ?_
  refine e_j_iconst C 0 dX6_init_115 (by decide) ?_
  refine e_j_nmH hm (fun h39 hm => ?_)
  obtain ⟨c40, hm⟩ := e_ak_inv hm
  refine e_j_pI C f_X6_62 c40 dX6_init_116 ?_
  refine e_j_aload_n C 0 dX6_init_119 rfl rfl ?_
  refine e_j_iconst C (-1 : Int32) dX6_init_120 (by decide) ?_
  refine e_j_nmH hm (fun h41 hm => ?_)
  obtain ⟨c42, hm⟩ := e_ak_inv hm
  refine e_j_pI C f_X6_66 c42 dX6_init_121 ?_
  refine e_j_aload_n C 0 dX6_init_124 rfl rfl ?_
  refine e_j_iconst C 0 dX6_init_125 (by decide) ?_
  refine e_j_nmH hm (fun h43 hm => ?_)
  obtain ⟨c44, hm⟩ := e_ak_inv hm
  refine e_j_pI C f_X6_69 c44 dX6_init_126 ?_
  refine e_j_aload_n C 0 dX6_init_129 rfl rfl ?_
  refine e_j_iconst C 0 dX6_init_130 (by decide) ?_
  refine e_j_nmH hm (fun h45 hm => ?_)
  obtain ⟨c46, hm⟩ := e_ak_inv hm
  refine e_j_pI C f_X6_72 c46 dX6_init_131 ?_
  refine e_j_aload_n C 0 dX6_init_134 rfl rfl ?_
  refine e_j_iconst C 0 dX6_init_135 (by decide) ?_
  refine e_j_nmH hm (fun h47 hm => ?_)
  obtain ⟨c48, hm⟩ := e_ak_inv hm
  refine e_j_pI C f_X6_75 c48 dX6_init_136 ?_
  refine e_j_aload_n C 0 dX6_init_139 rfl rfl ?_
  refine e_j_iconst C 0 dX6_init_140 (by decide) ?_
  refine e_j_nmH hm (fun h49 hm => ?_)
  obtain ⟨c50, hm⟩ := e_ak_inv hm
  refine e_j_pI C f_X6_78 c50 dX6_init_141 ?_
  refine e_j_iconst C 0 dX6_init_144 (by decide) ?_
  refine e_j_istore_n C [(1, .int ((0 : Int32))), (0, .ref (G.1 + v0))] dX6_init_145 rfl (by decide) rfl ?_
  refine e_j_sub (L' := [(0, .ref (G.1 + v0)), (1, .int ((0 : Int32)))]) [1, 0] rfl ?_
  exact k_EState_init_146 C I O hm
theorem c_EState_init {G : jG} {l : Launch} {v0 : Nat} {h : Hp} {out : Hp} (hm : s_EState_init v0 h = some out) : e_mt G l yX6_init cX6_init 2 (none) 2 93 [.ref (G.1 + v0)] h none out :=
  e_mt_of (by decide) (Nat.le_of_ble_eq_true rfl) _ rfl (fun X I C O => w_EState_init C I O hm)
def s_ETape_init (v0 : Nat) (h : Hp) : Option Hp :=
  nl ((400 : Int32)) <| lt (e_al h 0 (ix ((400 : Int32)))) fun h1 => e_ak h1 v0 107 <| lt (sR h1 v0 0 (some (e_nid h))) fun h3 => e_ak h3 v0 107 <| some (sI h3 v0 1 ((0 : Int32)))
def O_ETape_init (G : jG) (X : jX) (out : Hp) : Prop := e_jO G X (none) none out
theorem w_ETape_init {G : jG} {X : jX} (C : e_jC G X cX7_init 1 RX7 1 70) (I : ∀ Y, X.2 = some Y → (xM Y).name = "<init>") {v0 : Nat} {h : Hp} {out : Hp} (O : (O_ETape_init G X) out) (hm : s_ETape_init v0 h = some out) : e_J G X 0 [(0, .ref (G.1 + v0))] [] h := by
  unfold s_ETape_init at hm
  refine e_j_aload_n C 0 dX7_init_0 rfl rfl ?_
  refine e_j_obj C wd_262 wd_135 wd_136 (Nat.le_of_ble_eq_true rfl) (Nat.le_of_ble_eq_true rfl) dX7_init_1 ?_
  refine e_j_aload_n C 0 dX7_init_4 rfl rfl ?_
  refine e_j_sipush C 400 dX7_init_5 (by decide) ?_
  refine e_j_newaI C hm wd_255 dX7_init_8 (fun hm => ?_)
  refine e_j_nmH hm (fun h1 hm => ?_)
  obtain ⟨c2, hm⟩ := e_ak_inv hm
  refine e_j_pF C I (o := (some (e_nid h))) f_X7_9 ⟨_, _, _, rfl, rfl⟩ c2 rfl dX7_init_10 ?_
  refine e_j_aload_n C 0 dX7_init_13 rfl rfl ?_
  refine e_j_iconst C 0 dX7_init_14 (by decide) ?_
  refine e_j_nmH hm (fun h3 hm => ?_)
  obtain ⟨c4, hm⟩ := e_ak_inv hm
  refine e_j_pI C f_X7_15 c4 dX7_init_15 ?_
  obtain rfl := Option.some.inj hm
  exact e_j_vret C O dX7_init_18
theorem c_ETape_init {G : jG} {l : Launch} {v0 : Nat} {h : Hp} {out : Hp} (hm : s_ETape_init v0 h = some out) : e_mt G l yX7_init cX7_init 1 (none) 1 70 [.ref (G.1 + v0)] h none out :=
  e_mt_of (by decide) (Nat.le_of_ble_eq_true rfl) _ rfl (fun X I C O => w_ETape_init C I O hm)
def s_ETeller_init (v0 : Nat) (h : Hp) : Option Hp :=
  nl ((7 : Int32)) <| lt (e_al h 0 (ix ((7 : Int32)))) fun h1 => e_ak h1 v0 108 <| lt (sR h1 v0 0 (some (e_nid h))) fun h3 => nl ((64 : Int32)) <| lt (e_al h3 0 (ix ((64 : Int32)))) fun h4 => e_ak h4 v0 108 <| lt (sR h4 v0 1 (some (e_nid h3))) fun h6 => e_ak h6 v0 108 <| some (sI h6 v0 2 ((0 : Int32)))
def O_ETeller_init (G : jG) (X : jX) (out : Hp) : Prop := e_jO G X (none) none out
theorem w_ETeller_init {G : jG} {X : jX} (C : e_jC G X cX8_init 1 RX8 1 70) (I : ∀ Y, X.2 = some Y → (xM Y).name = "<init>") {v0 : Nat} {h : Hp} {out : Hp} (O : (O_ETeller_init G X) out) (hm : s_ETeller_init v0 h = some out) : e_J G X 0 [(0, .ref (G.1 + v0))] [] h := by
  unfold s_ETeller_init at hm
  refine e_j_aload_n C 0 dX8_init_0 rfl rfl ?_
  refine e_j_obj C wd_324 wd_135 wd_136 (Nat.le_of_ble_eq_true rfl) (Nat.le_of_ble_eq_true rfl) dX8_init_1 ?_
  refine e_j_aload_n C 0 dX8_init_4 rfl rfl ?_
  refine e_j_bipush C 7 dX8_init_5 (by decide) ?_
  refine e_j_newaI C hm wd_255 dX8_init_7 (fun hm => ?_)
  refine e_j_nmH hm (fun h1 hm => ?_)
  obtain ⟨c2, hm⟩ := e_ak_inv hm
  refine e_j_pF C I (o := (some (e_nid h))) f_X8_9 ⟨_, _, _, rfl, rfl⟩ c2 rfl dX8_init_9 ?_
  refine e_j_aload_n C 0 dX8_init_12 rfl rfl ?_
  refine e_j_bipush C 64 dX8_init_13 (by decide) ?_
  refine e_j_nmH hm (fun h3 hm => ?_)
  refine e_j_newaI C hm wd_255 dX8_init_15 (fun hm => ?_)
  refine e_j_nmH hm (fun h4 hm => ?_)
  obtain ⟨c5, hm⟩ := e_ak_inv hm
  refine e_j_pF C I (o := (some (e_nid h3))) f_X8_13 ⟨_, _, _, rfl, rfl⟩ c5 rfl dX8_init_17 ?_
  refine e_j_aload_n C 0 dX8_init_20 rfl rfl ?_
  refine e_j_iconst C 0 dX8_init_21 (by decide) ?_
  refine e_j_nmH hm (fun h6 hm => ?_)
  obtain ⟨c7, hm⟩ := e_ak_inv hm
  refine e_j_pI C f_X8_16 c7 dX8_init_22 ?_
  obtain rfl := Option.some.inj hm
  exact e_j_vret C O dX8_init_25
theorem c_ETeller_init {G : jG} {l : Launch} {v0 : Nat} {h : Hp} {out : Hp} (hm : s_ETeller_init v0 h = some out) : e_mt G l yX8_init cX8_init 1 (none) 1 70 [.ref (G.1 + v0)] h none out :=
  e_mt_of (by decide) (Nat.le_of_ble_eq_true rfl) _ rfl (fun X I C O => w_ETeller_init C I O hm)
def s_EWater_init (v0 : Nat) (v1 : Nat) (h : Hp) : Option Hp :=
  lt (e_al h 108 3) fun h1 => (s_ETeller_init (e_nid h) h1).bind fun u2 => e_ak u2 v0 109 <| lt (sR u2 v0 1 (some (e_nid h))) fun h4 => nl ((2880 : Int32)) <| lt (e_al h4 0 (ix ((2880 : Int32)))) fun h5 => e_ak h5 v0 109 <| lt (sR h5 v0 2 (some (e_nid h4))) fun h7 => nl ((24 : Int32)) <| lt (e_al h7 0 (ix ((24 : Int32)))) fun h8 => e_ak h8 v0 109 <| lt (sR h8 v0 3 (some (e_nid h7))) fun h10 => nl ((21 : Int32)) <| lt (e_al h10 1 (ix ((21 : Int32)))) fun h11 => e_ak h11 v0 109 <| lt (sR h11 v0 4 (some (e_nid h10))) fun h13 => nl ((1440 : Int32)) <| lt (e_al h13 0 (ix ((1440 : Int32)))) fun h14 => e_ak h14 v0 109 <| lt (sR h14 v0 5 (some (e_nid h13))) fun h16 => e_ak h16 v0 109 <| lt (sR h16 v0 6 none) fun h18 => e_ak h18 v0 109 <| lt (sR h18 v0 7 none) fun h20 => e_ak h20 v0 109 <| lt (sR h20 v0 8 none) fun h22 => e_ak h22 v0 109 <| lt (sI h22 v0 9 ((0 : Int32))) fun h24 => e_ak h24 v0 109 <| lt (sI h24 v0 10 ((0 : Int32))) fun h26 => e_ak h26 v0 109 <| lt (sI h26 v0 11 ((0 : Int32))) fun h28 => e_ak h28 v0 109 <| lt (sI h28 v0 12 ((-1 : Int32))) fun h30 => e_ak h30 v0 109 <| lt (sI h30 v0 13 ((-1 : Int32))) fun h32 => e_ak h32 v0 109 <| lt (sR h32 v0 0 (some v1)) fun h34 => e_ak h34 v0 109 <| nn (e_rf h34 v0 4) fun r36 => (s_EArr_fillL r36 ((-1 : Int64)) h34).bind fun u37 => some u37
def O_EWater_init (G : jG) (X : jX) (out : Hp) : Prop := e_jO G X (none) none out
theorem w_EWater_init {G : jG} {X : jX} (C : e_jC G X cX9_init 2 RX9 2 94) (I : ∀ Y, X.2 = some Y → (xM Y).name = "<init>") {v0 : Nat} {v1 : Nat} {h : Hp} {out : Hp} (O : (O_EWater_init G X) out) (hm : s_EWater_init v0 v1 h = some out) : e_J G X 0 [(0, .ref (G.1 + v0)), (1, .ref (G.1 + v1))] [] h := by
  unfold s_EWater_init at hm
  refine e_j_aload_n C 0 dX9_init_0 rfl rfl ?_
  refine e_j_obj C wd_318 wd_135 wd_136 (Nat.le_of_ble_eq_true rfl) (Nat.le_of_ble_eq_true rfl) dX9_init_1 ?_
  refine e_j_aload_n C 0 dX9_init_4 rfl rfl ?_
  refine e_j_new C on_X9_9 dX9_init_5 ?_
  refine e_j_dup C dX9_init_8 rfl ?_
  refine e_j_nmH hm (fun h1 hm => ?_)
  refine e_j_cJ C l_X9_11 [] [.ref (G.1 + (e_nid h)), .ref (G.1 + v0)] (fun u2 => u2) hm (fun l u hu => c_ETeller_init hu) rfl (Nat.le_of_ble_eq_true rfl) rfl (Nat.le_of_ble_eq_true rfl) (Nat.le_of_ble_eq_true rfl) dX9_init_9 (fun u2 hm => ?_)
  obtain ⟨c3, hm⟩ := e_ak_inv hm
  refine e_j_pF C I (o := (some (e_nid h))) f_X9_12 ⟨_, _, _, rfl, rfl⟩ c3 rfl dX9_init_12 ?_
  refine e_j_aload_n C 0 dX9_init_15 rfl rfl ?_
  refine e_j_sipush C 2880 dX9_init_16 (by decide) ?_
  refine e_j_nmH hm (fun h4 hm => ?_)
  refine e_j_newaI C hm wd_255 dX9_init_19 (fun hm => ?_)
  refine e_j_nmH hm (fun h5 hm => ?_)
  obtain ⟨c6, hm⟩ := e_ak_inv hm
  refine e_j_pF C I (o := (some (e_nid h4))) f_X9_18 ⟨_, _, _, rfl, rfl⟩ c6 rfl dX9_init_21 ?_
  refine e_j_aload_n C 0 dX9_init_24 rfl rfl ?_
  refine e_j_bipush C 24 dX9_init_25 (by decide) ?_
  refine e_j_nmH hm (fun h7 hm => ?_)
  refine e_j_newaI C hm wd_255 dX9_init_27 (fun hm => ?_)
  refine e_j_nmH hm (fun h8 hm => ?_)
  obtain ⟨c9, hm⟩ := e_ak_inv hm
  refine e_j_pF C I (o := (some (e_nid h7))) f_X9_22 ⟨_, _, _, rfl, rfl⟩ c9 rfl dX9_init_29 ?_
  refine e_j_aload_n C 0 dX9_init_32 rfl rfl ?_
  refine e_j_bipush C 21 dX9_init_33 (by decide) ?_
  refine e_j_nmH hm (fun h10 hm => ?_)
  refine e_j_newaL C hm wd_389 dX9_init_35 (fun hm => ?_)
  refine e_j_nmH hm (fun h11 hm => ?_)
  obtain ⟨c12, hm⟩ := e_ak_inv hm
  refine e_j_pF C I (o := (some (e_nid h10))) f_X9_25 ⟨_, _, _, rfl, rfl⟩ c12 rfl dX9_init_37 ?_
  refine e_j_aload_n C 0 dX9_init_40 rfl rfl ?_
  refine e_j_sipush C 1440 dX9_init_41 (by decide) ?_
  refine e_j_nmH hm (fun h13 hm => ?_)
  refine e_j_newaI C hm wd_255 dX9_init_44 (fun hm => ?_)
  refine e_j_nmH hm (fun h14 hm => ?_)
  obtain ⟨c15, hm⟩ := e_ak_inv hm
  refine e_j_pF C I (o := (some (e_nid h13))) f_X9_29 ⟨_, _, _, rfl, rfl⟩ c15 rfl dX9_init_46 ?_
  refine e_j_aload_n C 0 dX9_init_49 rfl rfl ?_
  refine e_j_null C dX9_init_50 ?_
  refine e_j_nmH hm (fun h16 hm => ?_)
  obtain ⟨c17, hm⟩ := e_ak_inv hm
  refine e_j_pR C (o := none) f_X9_32 c17 rfl dX9_init_51 ?_
  refine e_j_aload_n C 0 dX9_init_54 rfl rfl ?_
  refine e_j_null C dX9_init_55 ?_
  refine e_j_nmH hm (fun h18 hm => ?_)
  obtain ⟨c19, hm⟩ := e_ak_inv hm
  refine e_j_pR C (o := none) f_X9_35 c19 rfl dX9_init_56 ?_
  refine e_j_aload_n C 0 dX9_init_59 rfl rfl ?_
  refine e_j_null C dX9_init_60 ?_
  refine e_j_nmH hm (fun h20 hm => ?_)
  obtain ⟨c21, hm⟩ := e_ak_inv hm
  refine e_j_pR C (o := none) f_X9_38 c21 rfl dX9_init_61 ?_
  refine e_j_aload_n C 0 dX9_init_64 rfl rfl ?_
  refine e_j_iconst C 0 dX9_init_65 (by decide) ?_
  refine e_j_nmH hm (fun h22 hm => ?_)
  obtain ⟨c23, hm⟩ := e_ak_inv hm
  refine e_j_pZ C f_X9_41 c23 (by decide) dX9_init_66 ?_
  refine e_j_aload_n C 0 dX9_init_69 rfl rfl ?_
  refine e_j_iconst C 0 dX9_init_70 (by decide) ?_
  refine e_j_nmH hm (fun h24 hm => ?_)
  obtain ⟨c25, hm⟩ := e_ak_inv hm
  refine e_j_pZ C f_X9_45 c25 (by decide) dX9_init_71 ?_
  refine e_j_aload_n C 0 dX9_init_74 rfl rfl ?_
  refine e_j_iconst C 0 dX9_init_75 (by decide) ?_
  refine e_j_nmH hm (fun h26 hm => ?_)
  obtain ⟨c27, hm⟩ := e_ak_inv hm
  refine e_j_pZ C f_X9_48 c27 (by decide) dX9_init_76 ?_
  refine e_j_aload_n C 0 dX9_init_79 rfl rfl ?_
  refine e_j_iconst C (-1 : Int32) dX9_init_80 (by decide) ?_
  refine e_j_nmH hm (fun h28 hm => ?_)
  obtain ⟨c29, hm⟩ := e_ak_inv hm
  refine e_j_pI C f_X9_51 c29 dX9_init_81 ?_
  refine e_j_aload_n C 0 dX9_init_84 rfl rfl ?_
  refine e_j_iconst C (-1 : Int32) dX9_init_85 (by decide) ?_
  refine e_j_nmH hm (fun h30 hm => ?_)
  obtain ⟨c31, hm⟩ := e_ak_inv hm
  refine e_j_pI C f_X9_55 c31 dX9_init_86 ?_
  refine e_j_aload_n C 0 dX9_init_89 rfl rfl ?_
  refine e_j_aload_n C 1 dX9_init_90 rfl rfl ?_
  refine e_j_nmH hm (fun h32 hm => ?_)
  obtain ⟨c33, hm⟩ := e_ak_inv hm
  refine e_j_pF C I (o := (some v1)) f_X9_58 ⟨_, _, _, rfl, rfl⟩ c33 rfl dX9_init_91 ?_
  refine e_j_aload_n C 0 dX9_init_94 rfl rfl ?_
  refine e_j_nmH hm (fun h34 hm => ?_)
  obtain ⟨c35, hm⟩ := e_ak_inv hm
  refine e_j_gN C f_X9_25 c35 hm dX9_init_95 (fun r36 hm => ?_)
  refine e_j_ldc2 C wd_336 dX9_init_98 ?_
  refine e_j_cS C l_X9_64 [.ref (G.1 + r36), .long ((-1 : Int64))] [] (fun _ => none) (fun u37 => u37) (fun u37 => []) hm (fun l u hu => c_EArr_fillL hu) rfl (Nat.le_of_ble_eq_true rfl) rfl (Nat.le_of_ble_eq_true rfl) (Nat.le_of_ble_eq_true rfl) (fun _ => rfl) dX9_init_101 (fun u37 hm => ?_)
  obtain rfl := Option.some.inj hm
  exact e_j_vret C O dX9_init_104
theorem c_EWater_init {G : jG} {l : Launch} {v0 : Nat} {v1 : Nat} {h : Hp} {out : Hp} (hm : s_EWater_init v0 v1 h = some out) : e_mt G l yX9_init cX9_init 2 (none) 2 94 [.ref (G.1 + v0), .ref (G.1 + v1)] h none out :=
  e_mt_of (by decide) (Nat.le_of_ble_eq_true rfl) _ rfl (fun X I C O => w_EWater_init C I O hm)
def s_EWays_init (v0 : Nat) (v1 : Nat) (v2 : Nat) (h : Hp) : Option Hp :=
  nl ((864 : Int32)) <| lt (e_al h 0 (ix ((864 : Int32)))) fun h1 => e_ak h1 v0 110 <| lt (sR h1 v0 2 (some (e_nid h))) fun h3 => nl ((864 : Int32)) <| lt (e_al h3 0 (ix ((864 : Int32)))) fun h4 => e_ak h4 v0 110 <| lt (sR h4 v0 3 (some (e_nid h3))) fun h6 => nl ((6 : Int32)) <| lt (e_al h6 1 (ix ((6 : Int32)))) fun h7 => e_ak h7 v0 110 <| lt (sR h7 v0 4 (some (e_nid h6))) fun h9 => nl ((144 : Int32)) <| lt (e_al h9 1 (ix ((144 : Int32)))) fun h10 => e_ak h10 v0 110 <| lt (sR h10 v0 5 (some (e_nid h9))) fun h12 => nl ((144 : Int32)) <| lt (e_al h12 1 (ix ((144 : Int32)))) fun h13 => e_ak h13 v0 110 <| lt (sR h13 v0 6 (some (e_nid h12))) fun h15 => nl ((144 : Int32)) <| lt (e_al h15 1 (ix ((144 : Int32)))) fun h16 => e_ak h16 v0 110 <| lt (sR h16 v0 7 (some (e_nid h15))) fun h18 => nl ((144 : Int32)) <| lt (e_al h18 1 (ix ((144 : Int32)))) fun h19 => e_ak h19 v0 110 <| lt (sR h19 v0 8 (some (e_nid h18))) fun h21 => nl ((144 : Int32)) <| lt (e_al h21 1 (ix ((144 : Int32)))) fun h22 => e_ak h22 v0 110 <| lt (sR h22 v0 9 (some (e_nid h21))) fun h24 => nl ((50 : Int32)) <| lt (e_al h24 0 (ix ((50 : Int32)))) fun h25 => e_ak h25 v0 110 <| lt (sR h25 v0 10 (some (e_nid h24))) fun h27 => nl ((50 : Int32)) <| lt (e_al h27 0 (ix ((50 : Int32)))) fun h28 => e_ak h28 v0 110 <| lt (sR h28 v0 11 (some (e_nid h27))) fun h30 => e_ak h30 v0 110 <| lt (sI h30 v0 12 ((0 : Int32))) fun h32 => e_ak h32 v0 110 <| lt (sR h32 v0 0 (some v1)) fun h34 => e_ak h34 v0 110 <| some (sR h34 v0 1 (some v2))
def O_EWays_init (G : jG) (X : jX) (out : Hp) : Prop := e_jO G X (none) none out
theorem w_EWays_init {G : jG} {X : jX} (C : e_jC G X cX10_init 3 RX10 1 70) (I : ∀ Y, X.2 = some Y → (xM Y).name = "<init>") {v0 : Nat} {v1 : Nat} {v2 : Nat} {h : Hp} {out : Hp} (O : (O_EWays_init G X) out) (hm : s_EWays_init v0 v1 v2 h = some out) : e_J G X 0 [(0, .ref (G.1 + v0)), (1, .ref (G.1 + v1)), (2, .ref (G.1 + v2))] [] h := by
  unfold s_EWays_init at hm
  refine e_j_aload_n C 0 dX10_init_0 rfl rfl ?_
  refine e_j_obj C wd_395 wd_135 wd_136 (Nat.le_of_ble_eq_true rfl) (Nat.le_of_ble_eq_true rfl) dX10_init_1 ?_
  refine e_j_aload_n C 0 dX10_init_4 rfl rfl ?_
  refine e_j_sipush C 864 dX10_init_5 (by decide) ?_
  refine e_j_newaI C hm wd_255 dX10_init_8 (fun hm => ?_)
  refine e_j_nmH hm (fun h1 hm => ?_)
  obtain ⟨c2, hm⟩ := e_ak_inv hm
  refine e_j_pF C I (o := (some (e_nid h))) f_X10_11 ⟨_, _, _, rfl, rfl⟩ c2 rfl dX10_init_10 ?_
  refine e_j_aload_n C 0 dX10_init_13 rfl rfl ?_
  refine e_j_sipush C 864 dX10_init_14 (by decide) ?_
  refine e_j_nmH hm (fun h3 hm => ?_)
  refine e_j_newaI C hm wd_255 dX10_init_17 (fun hm => ?_)
  refine e_j_nmH hm (fun h4 hm => ?_)
  obtain ⟨c5, hm⟩ := e_ak_inv hm
  refine e_j_pF C I (o := (some (e_nid h3))) f_X10_15 ⟨_, _, _, rfl, rfl⟩ c5 rfl dX10_init_19 ?_
  refine e_j_aload_n C 0 dX10_init_22 rfl rfl ?_
  refine e_j_bipush C 6 dX10_init_23 (by decide) ?_
  refine e_j_nmH hm (fun h6 hm => ?_)
  refine e_j_newaL C hm wd_389 dX10_init_25 (fun hm => ?_)
  refine e_j_nmH hm (fun h7 hm => ?_)
  obtain ⟨c8, hm⟩ := e_ak_inv hm
  refine e_j_pF C I (o := (some (e_nid h6))) f_X10_18 ⟨_, _, _, rfl, rfl⟩ c8 rfl dX10_init_27 ?_
  refine e_j_aload_n C 0 dX10_init_30 rfl rfl ?_
  refine e_j_sipush C 144 dX10_init_31 (by decide) ?_
  refine e_j_nmH hm (fun h9 hm => ?_)
  refine e_j_newaL C hm wd_389 dX10_init_34 (fun hm => ?_)
  refine e_j_nmH hm (fun h10 hm => ?_)
  obtain ⟨c11, hm⟩ := e_ak_inv hm
  refine e_j_pF C I (o := (some (e_nid h9))) f_X10_22 ⟨_, _, _, rfl, rfl⟩ c11 rfl dX10_init_36 ?_
  refine e_j_aload_n C 0 dX10_init_39 rfl rfl ?_
  refine e_j_sipush C 144 dX10_init_40 (by decide) ?_
  refine e_j_nmH hm (fun h12 hm => ?_)
  refine e_j_newaL C hm wd_389 dX10_init_43 (fun hm => ?_)
  refine e_j_nmH hm (fun h13 hm => ?_)
  obtain ⟨c14, hm⟩ := e_ak_inv hm
  refine e_j_pF C I (o := (some (e_nid h12))) f_X10_25 ⟨_, _, _, rfl, rfl⟩ c14 rfl dX10_init_45 ?_
  refine e_j_aload_n C 0 dX10_init_48 rfl rfl ?_
  refine e_j_sipush C 144 dX10_init_49 (by decide) ?_
  refine e_j_nmH hm (fun h15 hm => ?_)
  refine e_j_newaL C hm wd_389 dX10_init_52 (fun hm => ?_)
  refine e_j_nmH hm (fun h16 hm => ?_)
  obtain ⟨c17, hm⟩ := e_ak_inv hm
  refine e_j_pF C I (o := (some (e_nid h15))) f_X10_28 ⟨_, _, _, rfl, rfl⟩ c17 rfl dX10_init_54 ?_
  refine e_j_aload_n C 0 dX10_init_57 rfl rfl ?_
  refine e_j_sipush C 144 dX10_init_58 (by decide) ?_
  refine e_j_nmH hm (fun h18 hm => ?_)
  refine e_j_newaL C hm wd_389 dX10_init_61 (fun hm => ?_)
  refine e_j_nmH hm (fun h19 hm => ?_)
  obtain ⟨c20, hm⟩ := e_ak_inv hm
  refine e_j_pF C I (o := (some (e_nid h18))) f_X10_31 ⟨_, _, _, rfl, rfl⟩ c20 rfl dX10_init_63 ?_
  refine e_j_aload_n C 0 dX10_init_66 rfl rfl ?_
  refine e_j_sipush C 144 dX10_init_67 (by decide) ?_
  refine e_j_nmH hm (fun h21 hm => ?_)
  refine e_j_newaL C hm wd_389 dX10_init_70 (fun hm => ?_)
  refine e_j_nmH hm (fun h22 hm => ?_)
  obtain ⟨c23, hm⟩ := e_ak_inv hm
  refine e_j_pF C I (o := (some (e_nid h21))) f_X10_34 ⟨_, _, _, rfl, rfl⟩ c23 rfl dX10_init_72 ?_
  refine e_j_aload_n C 0 dX10_init_75 rfl rfl ?_
  refine e_j_bipush C 50 dX10_init_76 (by decide) ?_
  refine e_j_nmH hm (fun h24 hm => ?_)
  refine e_j_newaI C hm wd_255 dX10_init_78 (fun hm => ?_)
  refine e_j_nmH hm (fun h25 hm => ?_)
  obtain ⟨c26, hm⟩ := e_ak_inv hm
  refine e_j_pF C I (o := (some (e_nid h24))) f_X10_37 ⟨_, _, _, rfl, rfl⟩ c26 rfl dX10_init_80 ?_
  refine e_j_aload_n C 0 dX10_init_83 rfl rfl ?_
  refine e_j_bipush C 50 dX10_init_84 (by decide) ?_
  refine e_j_nmH hm (fun h27 hm => ?_)
  refine e_j_newaI C hm wd_255 dX10_init_86 (fun hm => ?_)
  refine e_j_nmH hm (fun h28 hm => ?_)
  obtain ⟨c29, hm⟩ := e_ak_inv hm
  refine e_j_pF C I (o := (some (e_nid h27))) f_X10_40 ⟨_, _, _, rfl, rfl⟩ c29 rfl dX10_init_88 ?_
  refine e_j_aload_n C 0 dX10_init_91 rfl rfl ?_
  refine e_j_iconst C 0 dX10_init_92 (by decide) ?_
  refine e_j_nmH hm (fun h30 hm => ?_)
  obtain ⟨c31, hm⟩ := e_ak_inv hm
  refine e_j_pZ C f_X10_43 c31 (by decide) dX10_init_93 ?_
  refine e_j_aload_n C 0 dX10_init_96 rfl rfl ?_
  refine e_j_aload_n C 1 dX10_init_97 rfl rfl ?_
  refine e_j_nmH hm (fun h32 hm => ?_)
  obtain ⟨c33, hm⟩ := e_ak_inv hm
  refine e_j_pF C I (o := (some v1)) f_X10_47 ⟨_, _, _, rfl, rfl⟩ c33 rfl dX10_init_98 ?_
  refine e_j_aload_n C 0 dX10_init_101 rfl rfl ?_
  refine e_j_aload_n C 2 dX10_init_102 rfl rfl ?_
  refine e_j_nmH hm (fun h34 hm => ?_)
  obtain ⟨c35, hm⟩ := e_ak_inv hm
  refine e_j_pF C I (o := (some v2)) f_X10_51 ⟨_, _, _, rfl, rfl⟩ c35 rfl dX10_init_103 ?_
  obtain rfl := Option.some.inj hm
  exact e_j_vret C O dX10_init_106
theorem c_EWays_init {G : jG} {l : Launch} {v0 : Nat} {v1 : Nat} {v2 : Nat} {h : Hp} {out : Hp} (hm : s_EWays_init v0 v1 v2 h = some out) : e_mt G l yX10_init cX10_init 3 (none) 1 70 [.ref (G.1 + v0), .ref (G.1 + v1), .ref (G.1 + v2)] h none out :=
  e_mt_of (by decide) (Nat.le_of_ble_eq_true rfl) _ rfl (fun X I C O => w_EWays_init C I O hm)
def s_ERace_init (v0 : Nat) (h : Hp) : Option Hp :=
  lt (e_al h 106 19) fun h1 => (s_EState_init (e_nid h) h1).bind fun u2 => e_ak u2 v0 111 <| lt (sR u2 v0 0 (some (e_nid h))) fun h4 => nl ((2 : Int32)) <| lt (e_al h4 16 (ix ((2 : Int32)))) fun h5 => lt (e_al h5 106 19) fun h6 => (s_EState_init (e_nid h5) h6).bind fun u7 => e_ak u7 (e_nid h4) 16 <| ib ((0 : Int32)) (e_ln u7 (e_nid h4)) <| e_oq u7 (some (e_nid h5)) 106 <| lt (sR u7 (e_nid h4) (ix ((0 : Int32))) (some (e_nid h5))) fun h9 => lt (e_al h9 106 19) fun h10 => (s_EState_init (e_nid h9) h10).bind fun u11 => e_ak u11 (e_nid h4) 16 <| ib ((1 : Int32)) (e_ln u11 (e_nid h4)) <| e_oq u11 (some (e_nid h9)) 106 <| lt (sR u11 (e_nid h4) (ix ((1 : Int32))) (some (e_nid h9))) fun h13 => e_ak h13 v0 111 <| lt (sR h13 v0 1 (some (e_nid h4))) fun h15 => nl ((2 : Int32)) <| lt (e_al h15 2 (ix ((2 : Int32)))) fun h16 => e_ak h16 v0 111 <| lt (sR h16 v0 2 (some (e_nid h15))) fun h18 => lt (e_al h18 107 2) fun h19 => (s_ETape_init (e_nid h18) h19).bind fun u20 => e_ak u20 v0 111 <| lt (sR u20 v0 3 (some (e_nid h18))) fun h22 => lt (e_al h22 103 10) fun h23 => e_ak h23 v0 111 <| nn (e_rf h23 v0 3) fun r25 => (s_EReader_init (e_nid h22) r25 h23).bind fun u26 => e_ak u26 v0 111 <| lt (sR u26 v0 4 (some (e_nid h22))) fun h28 => lt (e_al h28 109 14) fun h29 => e_ak h29 v0 111 <| nn (e_rf h29 v0 0) fun r31 => (s_EWater_init (e_nid h28) r31 h29).bind fun u32 => e_ak u32 v0 111 <| lt (sR u32 v0 5 (some (e_nid h28))) fun h34 => lt (e_al h34 110 13) fun h35 => e_ak h35 v0 111 <| nn (e_rf h35 v0 0) fun r37 => e_ak h35 v0 111 <| nn (e_rf h35 v0 5) fun r39 => (s_EWays_init (e_nid h34) r37 r39 h35).bind fun u40 => e_ak u40 v0 111 <| lt (sR u40 v0 6 (some (e_nid h34))) fun h42 => lt (e_al h42 102 9) fun h43 => e_ak h43 v0 111 <| nn (e_rf h43 v0 0) fun r45 => e_ak h43 v0 111 <| nn (e_rf h43 v0 5) fun r47 => (s_ELocks_init (e_nid h42) r45 r47 h43).bind fun u48 => e_ak u48 v0 111 <| lt (sR u48 v0 7 (some (e_nid h42))) fun h50 => lt (e_al h50 105 12) fun h51 => e_ak h51 v0 111 <| nn (e_rf h51 v0 0) fun r53 => e_ak h51 v0 111 <| nn (e_rf h51 v0 5) fun r55 => (s_ESoundings_init (e_nid h50) r53 r55 h51).bind fun u56 => e_ak u56 v0 111 <| lt (sR u56 v0 8 (some (e_nid h50))) fun h58 => lt (e_al h58 104 5) fun h59 => e_ak h59 v0 111 <| nn (e_rf h59 v0 5) fun r61 => (s_ERule_init (e_nid h58) r61 h59).bind fun u62 => e_ak u62 v0 111 <| lt (sR u62 v0 9 (some (e_nid h58))) fun h64 => lt (e_al h64 100 4) fun h65 => e_ak h65 v0 111 <| nn (e_rf h65 v0 0) fun r67 => e_ak h65 v0 111 <| nn (e_rf h65 v0 5) fun r69 => (s_EDrift_init (e_nid h64) r67 r69 h65).bind fun u70 => e_ak u70 v0 111 <| lt (sR u70 v0 10 (some (e_nid h64))) fun h72 => nl ((4 : Int32)) <| lt (e_al h72 0 (ix ((4 : Int32)))) fun h73 => e_ak h73 v0 111 <| lt (sR h73 v0 11 (some (e_nid h72))) fun h75 => e_ak h75 v0 111 <| lt (sI h75 v0 12 ((0 : Int32))) fun h77 => e_ak h77 v0 111 <| lt (sI h77 v0 13 ((0 : Int32))) fun h79 => e_ak h79 v0 111 <| some (sI h79 v0 14 ((-1 : Int32)))
def O_ERace_init (G : jG) (X : jX) (out : Hp) : Prop := e_jO G X (none) none out
theorem w_ERace_init {G : jG} {X : jX} (C : e_jC G X cX11_init 1 RX11 3 115) (I : ∀ Y, X.2 = some Y → (xM Y).name = "<init>") {v0 : Nat} {h : Hp} {out : Hp} (O : (O_ERace_init G X) out) (hm : s_ERace_init v0 h = some out) : e_J G X 0 [(0, .ref (G.1 + v0))] [] h := by
  unfold s_ERace_init at hm
  refine e_j_aload_n C 0 dX11_init_0 rfl rfl ?_
  refine e_j_obj C wd_134 wd_135 wd_136 (Nat.le_of_ble_eq_true rfl) (Nat.le_of_ble_eq_true rfl) dX11_init_1 ?_
  refine e_j_aload_n C 0 dX11_init_4 rfl rfl ?_
  refine e_j_new C on_X11_7 dX11_init_5 ?_
  refine e_j_dup C dX11_init_8 rfl ?_
  refine e_j_nmH hm (fun h1 hm => ?_)
  refine e_j_cI C l_X11_9 [] [.ref (G.1 + (e_nid h)), .ref (G.1 + v0)] (fun u2 => u2) hm (fun l u hu => c_EState_init hu) rfl (Nat.le_of_ble_eq_true rfl) rfl (Nat.le_of_ble_eq_true rfl) (Nat.le_of_ble_eq_true rfl) dX11_init_9 (fun u2 hm => ?_)
  obtain ⟨c3, hm⟩ := e_ak_inv hm
  refine e_j_pF C I (o := (some (e_nid h))) f_X11_10 ⟨_, _, _, rfl, rfl⟩ c3 rfl dX11_init_12 ?_
  refine e_j_aload_n C 0 dX11_init_15 rfl rfl ?_
  refine e_j_iconst C 2 dX11_init_16 (by decide) ?_
  refine e_j_nmH hm (fun h4 hm => ?_)
  refine e_j_anew C (ci := 6) (p := 4) hm wd_137 (fun Y y => (C Y y).kn.2.2.1) (by decide) rfl dX11_init_17 (fun hm => ?_)
  refine e_j_dup C dX11_init_20 rfl ?_
  refine e_j_iconst C 0 dX11_init_21 (by decide) ?_
  refine e_j_nmH hm (fun h5 hm => ?_)
  refine e_j_new C on_X11_7 dX11_init_22 ?_
  refine e_j_dup C dX11_init_25 rfl ?_
  refine e_j_nmH hm (fun h6 hm => ?_)
  refine e_j_cI C l_X11_9 [] [.ref (G.1 + (e_nid h5)), .int ((0 : Int32)), .ref (G.1 + (e_nid h4)), .ref (G.1 + (e_nid h4)), .ref (G.1 + v0)] (fun u7 => u7) hm (fun l u hu => c_EState_init hu) rfl (Nat.le_of_ble_eq_true rfl) rfl (Nat.le_of_ble_eq_true rfl) (Nat.le_of_ble_eq_true rfl) dX11_init_26 (fun u7 hm => ?_)
  obtain ⟨c8, hm⟩ := e_ak_inv hm
  refine e_j_aast C c8 hm dX11_init_29 (fun hm => ?_)
  refine e_j_dup C dX11_init_30 rfl ?_
  refine e_j_iconst C 1 dX11_init_31 (by decide) ?_
  refine e_j_nmH hm (fun h9 hm => ?_)
  refine e_j_new C on_X11_7 dX11_init_32 ?_
  refine e_j_dup C dX11_init_35 rfl ?_
  refine e_j_nmH hm (fun h10 hm => ?_)
  refine e_j_cI C l_X11_9 [] [.ref (G.1 + (e_nid h9)), .int ((1 : Int32)), .ref (G.1 + (e_nid h4)), .ref (G.1 + (e_nid h4)), .ref (G.1 + v0)] (fun u11 => u11) hm (fun l u hu => c_EState_init hu) rfl (Nat.le_of_ble_eq_true rfl) rfl (Nat.le_of_ble_eq_true rfl) (Nat.le_of_ble_eq_true rfl) dX11_init_36 (fun u11 hm => ?_)
  obtain ⟨c12, hm⟩ := e_ak_inv hm
  refine e_j_aast C c12 hm dX11_init_39 (fun hm => ?_)
  refine e_j_nmH hm (fun h13 hm => ?_)
  obtain ⟨c14, hm⟩ := e_ak_inv hm
  refine e_j_pF C I (o := (some (e_nid h4))) f_X11_16 ⟨_, _, _, rfl, rfl⟩ c14 rfl dX11_init_40 ?_
  refine e_j_aload_n C 0 dX11_init_43 rfl rfl ?_
  refine e_j_iconst C 2 dX11_init_44 (by decide) ?_
  refine e_j_nmH hm (fun h15 hm => ?_)
  refine e_j_newaZ C hm wd_274 dX11_init_45 (fun hm => ?_)
  refine e_j_nmH hm (fun h16 hm => ?_)
  obtain ⟨c17, hm⟩ := e_ak_inv hm
  refine e_j_pF C I (o := (some (e_nid h15))) f_X11_20 ⟨_, _, _, rfl, rfl⟩ c17 rfl dX11_init_47 ?_
  refine e_j_aload_n C 0 dX11_init_50 rfl rfl ?_
  refine e_j_nmH hm (fun h18 hm => ?_)
  refine e_j_new C on_X11_24 dX11_init_51 ?_
  refine e_j_dup C dX11_init_54 rfl ?_
  refine e_j_nmH hm (fun h19 hm => ?_)
  refine e_j_cJ C l_X11_26 [] [.ref (G.1 + (e_nid h18)), .ref (G.1 + v0)] (fun u20 => u20) hm (fun l u hu => c_ETape_init hu) rfl (Nat.le_of_ble_eq_true rfl) rfl (Nat.le_of_ble_eq_true rfl) (Nat.le_of_ble_eq_true rfl) dX11_init_55 (fun u20 hm => ?_)
  obtain ⟨c21, hm⟩ := e_ak_inv hm
  refine e_j_pF C I (o := (some (e_nid h18))) f_X11_27 ⟨_, _, _, rfl, rfl⟩ c21 rfl dX11_init_58 ?_
  refine e_j_aload_n C 0 dX11_init_61 rfl rfl ?_
  refine e_j_nmH hm (fun h22 hm => ?_)
  refine e_j_new C on_X11_31 dX11_init_62 ?_
  refine e_j_dup C dX11_init_65 rfl ?_
  refine e_j_aload_n C 0 dX11_init_66 rfl rfl ?_
  refine e_j_nmH hm (fun h23 hm => ?_)
  obtain ⟨c24, hm⟩ := e_ak_inv hm
  refine e_j_gN C f_X11_27 c24 hm dX11_init_67 (fun r25 hm => ?_)
  refine e_j_cI C l_X11_33 [.ref (G.1 + r25)] [.ref (G.1 + (e_nid h22)), .ref (G.1 + v0)] (fun u26 => u26) hm (fun l u hu => c_EReader_init hu) rfl (Nat.le_of_ble_eq_true rfl) rfl (Nat.le_of_ble_eq_true rfl) (Nat.le_of_ble_eq_true rfl) dX11_init_70 (fun u26 hm => ?_)
  obtain ⟨c27, hm⟩ := e_ak_inv hm
  refine e_j_pF C I (o := (some (e_nid h22))) f_X11_36 ⟨_, _, _, rfl, rfl⟩ c27 rfl dX11_init_73 ?_
  refine e_j_aload_n C 0 dX11_init_76 rfl rfl ?_
  refine e_j_nmH hm (fun h28 hm => ?_)
  refine e_j_new C on_X11_40 dX11_init_77 ?_
  refine e_j_dup C dX11_init_80 rfl ?_
  refine e_j_aload_n C 0 dX11_init_81 rfl rfl ?_
  refine e_j_nmH hm (fun h29 hm => ?_)
  obtain ⟨c30, hm⟩ := e_ak_inv hm
  refine e_j_gN C f_X11_10 c30 hm dX11_init_82 (fun r31 hm => ?_)
  refine e_j_cI C l_X11_42 [.ref (G.1 + r31)] [.ref (G.1 + (e_nid h28)), .ref (G.1 + v0)] (fun u32 => u32) hm (fun l u hu => c_EWater_init hu) rfl (Nat.le_of_ble_eq_true rfl) rfl (Nat.le_of_ble_eq_true rfl) (Nat.le_of_ble_eq_true rfl) dX11_init_85 (fun u32 hm => ?_)
  obtain ⟨c33, hm⟩ := e_ak_inv hm
  refine e_j_pF C I (o := (some (e_nid h28))) f_X11_45 ⟨_, _, _, rfl, rfl⟩ c33 rfl dX11_init_88 ?_
  refine e_j_aload_n C 0 dX11_init_91 rfl rfl ?_
  refine e_j_nmH hm (fun h34 hm => ?_)
  refine e_j_new C on_X11_49 dX11_init_92 ?_
  refine e_j_dup C dX11_init_95 rfl ?_
  refine e_j_aload_n C 0 dX11_init_96 rfl rfl ?_
  refine e_j_nmH hm (fun h35 hm => ?_)
  obtain ⟨c36, hm⟩ := e_ak_inv hm
  refine e_j_gN C f_X11_10 c36 hm dX11_init_97 (fun r37 hm => ?_)
  refine e_j_aload_n C 0 dX11_init_100 rfl rfl ?_
  obtain ⟨c38, hm⟩ := e_ak_inv hm
  refine e_j_gN C f_X11_45 c38 hm dX11_init_101 (fun r39 hm => ?_)
  refine e_j_cI C l_X11_51 [.ref (G.1 + r37), .ref (G.1 + r39)] [.ref (G.1 + (e_nid h34)), .ref (G.1 + v0)] (fun u40 => u40) hm (fun l u hu => c_EWays_init hu) rfl (Nat.le_of_ble_eq_true rfl) rfl (Nat.le_of_ble_eq_true rfl) (Nat.le_of_ble_eq_true rfl) dX11_init_104 (fun u40 hm => ?_)
  obtain ⟨c41, hm⟩ := e_ak_inv hm
  refine e_j_pF C I (o := (some (e_nid h34))) f_X11_54 ⟨_, _, _, rfl, rfl⟩ c41 rfl dX11_init_107 ?_
  refine e_j_aload_n C 0 dX11_init_110 rfl rfl ?_
  refine e_j_nmH hm (fun h42 hm => ?_)
  refine e_j_new C on_X11_58 dX11_init_111 ?_
  refine e_j_dup C dX11_init_114 rfl ?_
  refine e_j_aload_n C 0 dX11_init_115 rfl rfl ?_
  refine e_j_nmH hm (fun h43 hm => ?_)
  obtain ⟨c44, hm⟩ := e_ak_inv hm
  refine e_j_gN C f_X11_10 c44 hm dX11_init_116 (fun r45 hm => ?_)
  refine e_j_aload_n C 0 dX11_init_119 rfl rfl ?_
  obtain ⟨c46, hm⟩ := e_ak_inv hm
  refine e_j_gN C f_X11_45 c46 hm dX11_init_120 (fun r47 hm => ?_)
  refine e_j_cI C l_X11_60 [.ref (G.1 + r45), .ref (G.1 + r47)] [.ref (G.1 + (e_nid h42)), .ref (G.1 + v0)] (fun u48 => u48) hm (fun l u hu => c_ELocks_init hu) rfl (Nat.le_of_ble_eq_true rfl) rfl (Nat.le_of_ble_eq_true rfl) (Nat.le_of_ble_eq_true rfl) dX11_init_123 (fun u48 hm => ?_)
  obtain ⟨c49, hm⟩ := e_ak_inv hm
  refine e_j_pF C I (o := (some (e_nid h42))) f_X11_61 ⟨_, _, _, rfl, rfl⟩ c49 rfl dX11_init_126 ?_
  refine e_j_aload_n C 0 dX11_init_129 rfl rfl ?_
  refine e_j_nmH hm (fun h50 hm => ?_)
  refine e_j_new C on_X11_65 dX11_init_130 ?_
  refine e_j_dup C dX11_init_133 rfl ?_
  refine e_j_aload_n C 0 dX11_init_134 rfl rfl ?_
  refine e_j_nmH hm (fun h51 hm => ?_)
  obtain ⟨c52, hm⟩ := e_ak_inv hm
  refine e_j_gN C f_X11_10 c52 hm dX11_init_135 (fun r53 hm => ?_)
  refine e_j_aload_n C 0 dX11_init_138 rfl rfl ?_
  obtain ⟨c54, hm⟩ := e_ak_inv hm
  refine e_j_gN C f_X11_45 c54 hm dX11_init_139 (fun r55 hm => ?_)
  refine e_j_cI C l_X11_67 [.ref (G.1 + r53), .ref (G.1 + r55)] [.ref (G.1 + (e_nid h50)), .ref (G.1 + v0)] (fun u56 => u56) hm (fun l u hu => c_ESoundings_init hu) rfl (Nat.le_of_ble_eq_true rfl) rfl (Nat.le_of_ble_eq_true rfl) (Nat.le_of_ble_eq_true rfl) dX11_init_142 (fun u56 hm => ?_)
  obtain ⟨c57, hm⟩ := e_ak_inv hm
  refine e_j_pF C I (o := (some (e_nid h50))) f_X11_68 ⟨_, _, _, rfl, rfl⟩ c57 rfl dX11_init_145 ?_
  refine e_j_aload_n C 0 dX11_init_148 rfl rfl ?_
  refine e_j_nmH hm (fun h58 hm => ?_)
  refine e_j_new C on_X11_72 dX11_init_149 ?_
  refine e_j_dup C dX11_init_152 rfl ?_
  refine e_j_aload_n C 0 dX11_init_153 rfl rfl ?_
  refine e_j_nmH hm (fun h59 hm => ?_)
  obtain ⟨c60, hm⟩ := e_ak_inv hm
  refine e_j_gN C f_X11_45 c60 hm dX11_init_154 (fun r61 hm => ?_)
  refine e_j_cI C l_X11_74 [.ref (G.1 + r61)] [.ref (G.1 + (e_nid h58)), .ref (G.1 + v0)] (fun u62 => u62) hm (fun l u hu => c_ERule_init hu) rfl (Nat.le_of_ble_eq_true rfl) rfl (Nat.le_of_ble_eq_true rfl) (Nat.le_of_ble_eq_true rfl) dX11_init_157 (fun u62 hm => ?_)
  obtain ⟨c63, hm⟩ := e_ak_inv hm
  refine e_j_pF C I (o := (some (e_nid h58))) f_X11_77 ⟨_, _, _, rfl, rfl⟩ c63 rfl dX11_init_160 ?_
  refine e_j_aload_n C 0 dX11_init_163 rfl rfl ?_
  refine e_j_nmH hm (fun h64 hm => ?_)
  refine e_j_new C on_X11_81 dX11_init_164 ?_
  refine e_j_dup C dX11_init_167 rfl ?_
  refine e_j_aload_n C 0 dX11_init_168 rfl rfl ?_
  refine e_j_nmH hm (fun h65 hm => ?_)
  obtain ⟨c66, hm⟩ := e_ak_inv hm
  refine e_j_gN C f_X11_10 c66 hm dX11_init_169 (fun r67 hm => ?_)
  refine e_j_aload_n C 0 dX11_init_172 rfl rfl ?_
  obtain ⟨c68, hm⟩ := e_ak_inv hm
  refine e_j_gN C f_X11_45 c68 hm dX11_init_173 (fun r69 hm => ?_)
  refine e_j_cI C l_X11_83 [.ref (G.1 + r67), .ref (G.1 + r69)] [.ref (G.1 + (e_nid h64)), .ref (G.1 + v0)] (fun u70 => u70) hm (fun l u hu => c_EDrift_init hu) rfl (Nat.le_of_ble_eq_true rfl) rfl (Nat.le_of_ble_eq_true rfl) (Nat.le_of_ble_eq_true rfl) dX11_init_176 (fun u70 hm => ?_)
  obtain ⟨c71, hm⟩ := e_ak_inv hm
  refine e_j_pF C I (o := (some (e_nid h64))) f_X11_84 ⟨_, _, _, rfl, rfl⟩ c71 rfl dX11_init_179 ?_
  refine e_j_aload_n C 0 dX11_init_182 rfl rfl ?_
  refine e_j_iconst C 4 dX11_init_183 (by decide) ?_
  refine e_j_nmH hm (fun h72 hm => ?_)
  refine e_j_newaI C hm wd_255 dX11_init_184 (fun hm => ?_)
  refine e_j_nmH hm (fun h73 hm => ?_)
  obtain ⟨c74, hm⟩ := e_ak_inv hm
  refine e_j_pF C I (o := (some (e_nid h72))) f_X11_88 ⟨_, _, _, rfl, rfl⟩ c74 rfl dX11_init_186 ?_
  refine e_j_aload_n C 0 dX11_init_189 rfl rfl ?_
  refine e_j_iconst C 0 dX11_init_190 (by decide) ?_
  refine e_j_nmH hm (fun h75 hm => ?_)
  obtain ⟨c76, hm⟩ := e_ak_inv hm
  refine e_j_pI C f_X11_92 c76 dX11_init_191 ?_
  refine e_j_aload_n C 0 dX11_init_194 rfl rfl ?_
  refine e_j_iconst C 0 dX11_init_195 (by decide) ?_
  refine e_j_nmH hm (fun h77 hm => ?_)
  obtain ⟨c78, hm⟩ := e_ak_inv hm
  refine e_j_pI C f_X11_96 c78 dX11_init_196 ?_
  refine e_j_aload_n C 0 dX11_init_199 rfl rfl ?_
  refine e_j_iconst C (-1 : Int32) dX11_init_200 (by decide) ?_
  refine e_j_nmH hm (fun h79 hm => ?_)
  obtain ⟨c80, hm⟩ := e_ak_inv hm
  refine e_j_pI C f_X11_99 c80 dX11_init_201 ?_
  obtain rfl := Option.some.inj hm
  exact e_j_vret C O dX11_init_204
theorem c_ERace_init {G : jG} {l : Launch} {v0 : Nat} {h : Hp} {out : Hp} (hm : s_ERace_init v0 h = some out) : e_mt G l yX11_init cX11_init 1 (none) 3 115 [.ref (G.1 + v0)] h none out :=
  e_mt_of (by decide) (Nat.le_of_ble_eq_true rfl) _ rfl (fun X I C O => w_ERace_init C I O hm)
