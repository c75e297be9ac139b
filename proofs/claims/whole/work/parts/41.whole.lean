/-! from the constructors to the loop -/
def e_h0 : Hp := (fun _ _ => 0, fun _ _ => 0, fun _ _ => none, 0, fun _ => (0, 0), 0)
def hE1 : Hp := (s_ERace_init 0 (e_al e_h0 111 15)).getD e_h0
def hE : Hp := (s_EMod_init 84 (e_al hE1 112 52)).getD e_h0
theorem getD_of {α : Type} {o : Option α} {d : α} (h : o.isSome = true) : o = some (o.getD d) := by
  cases o with
  | none => cases h
  | some x => rfl
theorem hE1_is : s_ERace_init 0 (e_al e_h0 111 15) = some hE1 := getD_of (by decide +kernel)
theorem hE_is : s_EMod_init 84 (e_al hE1 112 52) = some hE := getD_of (by decide +kernel)
theorem hE1_n : hN hE1 = 84 := by decide +kernel
theorem hE_n : hN hE = 114 := by decide +kernel
theorem hE_s : hS hE = 57410 := by decide +kernel
theorem hE_k : ∀ j, j < 114 → hD hE j = KD.getD j (0, 0) := by decide +kernel
theorem hE_r : ∀ j, j < 114 → ∀ k, k < 60 → (match rs j k with | none => true | some r => decide (hR hE j k = some r)) = true := by decide +kernel
theorem RS_60 : ∀ r ∈ RS, r.length ≤ 60 := by decide +kernel
theorem hE_rf (j k : Nat) (r : Nat) (h : rs j k = some r) : hR hE j k = some r := by
  have hj : j < 114 := by
    by_cases hj : j < 114
    · exact hj
    · rw [rs_out (show NS ≤ j from Nat.not_lt.mp hj)] at h
      cases h
  have hk : k < 60 := by
    by_cases hk : k < 60
    · exact hk
    · have h2 : (RS.getD j []).length ≤ 60 := by
        have hl : j < RS.length := hj
        rw [List.getD_eq_getElem?_getD, List.getElem?_eq_getElem hl]
        exact RS_60 _ (List.getElem_mem hl)
      rw [rs, List.getD_eq_getElem?_getD (l := RS.getD j []), List.getElem?_eq_none (by omega)] at h
      cases h
  have h1 := hE_r j hj k hk
  rw [h] at h1
  exact of_decide_eq_true h1
/-- the same columns, the static nodes counted apart -/
def toS (h : Hp) : Hp := (h.1, h.2.1, h.2.2.1, 0, fun _ => (0, 0), 0)
section tos
variable {h : Hp}
theorem rf_toS (hr : ∀ j k r, rs j k = some r → hR h j k = some r) (j k : Nat) : rf (toS h) j k = e_rf h j k := by
  rw [e_rf0]
  unfold rf
  cases e : rs j k with
  | none => rfl
  | some r => exact (hr j k r e).symm
theorem fv_toS (hr : ∀ j k r, rs j k = some r → hR h j k = some r) (b j k t : Nat) : fv b (toS h) j k t = e_fv b h j k t := by
  unfold fv e_fv
  rw [rf_toS hr]
  rfl
theorem obF_toS (hr : ∀ j k r, rs j k = some r → hR h j k = some r) (b j : Nat) : ∀ (ts : List Nat) (k : Nat), obF b (toS h) j k ts = e_obF b h j k ts
  | [], _ => rfl
  | t :: ts, k => by rw [obF, e_obF, fv_toS hr, obF_toS hr b j ts]
theorem ce_toS (hr : ∀ j k r, rs j k = some r → hR h j k = some r) (hk : ∀ j, j < 114 → hD h j = KD.getD j (0, 0)) (cA : Nat → ClassId) (b : Nat) {j : Nat} (hj : j < 114) : ce cA b (toS h) j = e_ce cA b h j := by
  have hk : kd (toS h) j = e_kd h j := by
    have e1 : kd (toS h) j = KD.getD j (0, 0) := if_pos hj
    have e2 : e_kd h j = hD h j := if_neg (Nat.not_lt_zero j)
    rw [e1, e2, hk j hj]
  have hf : (fun k => (rf (toS h) j k).map (b + ·)) = fun k => (e_rf h j k).map (b + ·) := funext fun k => by rw [rf_toS hr]
  unfold ce e_ce
  rw [hk, obF_toS hr, hf]
  rfl
theorem cs_toS (hr : ∀ j k r, rs j k = some r → hR h j k = some r) (hk : ∀ j, j < 114 → hD h j = KD.getD j (0, 0)) (hn : hN h = 114) (cA : Nat → ClassId) (b : Nat) : cs cA b (toS h) = e_cs cA b h := by
  have h1 : nid (toS h) = 114 := rfl
  have h2 : e_nid h = 114 := by unfold e_nid; rw [hn]
  unfold cs e_cs
  rw [h1, h2]
  apply List.map_congr_left
  intro j hj
  rw [ce_toS hr hk cA b (List.mem_range.mp hj)]
theorem e_to (hr : ∀ j k r, rs j k = some r → hR h j k = some r) (hk : ∀ j, j < 114 → hD h j = KD.getD j (0, 0)) (hn : hN h = 114) (hs : hS h = 57410) {G : jG} {p : Program} {l : Launch} {e : Env} {R : Room} {s : State} {m : MethodId} {a : Array Value} {below : List Frame} {meth : Method} {c : Code} {Q : State → Prop} {nL pc : Nat} {L : List (Nat × Value)} {st : List Value} (K : J G ((599886, 7302249 - 57410), some (p, l, e, R, s, m, a, below, meth, c, Q, 0, 0, 114, 57410, nL)) pc L st (toS h)) : e_J G ((600000, 7302249), some (p, l, e, R, s, m, a, below, meth, c, Q, 0, 0, 0, 0, nL)) pc L st h := by
  refine e_J_mk ⟨by show hN h ≤ 600000; omega, by show hS h ≤ 7302249; omega⟩ fun Y y H locs ls a1 a2 a3 a4 a5 => ?_
  cases y
  have hW := K.2 _ rfl H locs ls (by
    show va_P _ _ _ _
    rw [cs_toS hr hk hn]
    exact a1) a2 a3 (Nat.le_refl _) (Nat.le_refl _)
  have z1 : hN (toS h) = 0 := rfl
  have z2 : hS (toS h) = 0 := rfl
  refine W.cs (cells' := 114 + (hN (toS h) - 0)) (slots' := 57410 + (hS (toS h) - 0)) ?_ ?_ hW
  · show 0 + (hN h - 0) = _
    omega
  · show 0 + (hS h - 0) = _
    omega
theorem e_start {h1 h2 : Hp} (m1 : s_ERace_init 0 (e_al e_h0 111 15) = some h1) (m2 : s_EMod_init 84 (e_al h1 112 52) = some h2) (n1 : hN h1 = 84) {G : jG} {X : jX} {b : Nat} (C : e_jC G X code 4 RL 2048 84000) (K : e_J G X 18 [(0, .ref b), (1, .ref (G.1 + 0)), (2, .ref (G.1 + 84)), (3, .int 0)] [] h2) : e_J G X 0 [(0, .ref b)] [] e_h0 := by
  have n1 : e_nid h1 = 84 := by unfold e_nid; rw [n1]
  refine e_j_new C on_L_7 dL_law_0 ?_
  refine e_j_dup C dL_law_3 rfl ?_
  refine e_j_cI C (e := s_ERace_init 0 (e_al e_h0 111 15)) (F := fun u => some u) (x_ := h1) l_L_9 [] [.ref (G.1 + 0)] (fun u => u) (by rw [m1]; rfl) (fun l u hu => c_ERace_init hu) rfl (Nat.le_of_ble_eq_true rfl) rfl (Nat.le_of_ble_eq_true rfl) (Nat.le_of_ble_eq_true rfl) dL_law_4 (fun u hu => ?_)
  cases hu
  refine e_j_astore_n C [(1, .ref (G.1 + 0)), (0, .ref b)] dL_law_7 rfl (by decide) rfl ?_
  refine e_j_new C on_L_10 dL_law_8 ?_
  rw [n1]
  refine e_j_dup C dL_law_11 rfl ?_
  refine e_j_cI C (e := s_EMod_init 84 (e_al h1 112 52)) (F := fun u => some u) (x_ := h2) l_L_12 [] [.ref (G.1 + 84)] (fun u => u) (by rw [m2]; rfl) (fun l u hu => c_EMod_init hu) rfl (Nat.le_of_ble_eq_true rfl) rfl (Nat.le_of_ble_eq_true rfl) (Nat.le_of_ble_eq_true rfl) dL_law_12 (fun u hu => ?_)
  cases hu
  refine e_j_astore_n C [(2, .ref (G.1 + 84)), (1, .ref (G.1 + 0)), (0, .ref b)] dL_law_15 rfl (by decide) rfl ?_
  refine e_j_iconst C 0 dL_law_16 (by decide) ?_
  refine e_j_istore_n C [(3, .int 0), (2, .ref (G.1 + 84)), (1, .ref (G.1 + 0)), (0, .ref b)] dL_law_17 rfl (by decide) rfl ?_
  exact e_j_sub (L' := [(0, .ref b), (1, .ref (G.1 + 0)), (2, .ref (G.1 + 84)), (3, .int 0)]) [3, 2, 1, 0] rfl K
end tos
/-- WHAT IS LEFT: over the models alone, the law's loop ends with 1, within the room -/
def pure_law : Prop := ∀ (sx : Nat → Int32) (sn : Nat), sn ≤ 3072 → ∃ h' : Hp, lp (fun q : Int32 × Hp => s_Law_loop_18 sx sn q.1 q.2) ((0 : Int32), toS hE) = some (1, h') ∧ hN h' ≤ 599886 ∧ hS h' ≤ 7302249 - 57410
theorem whole_of (PL : pure_law) {p : Program} {e : Env} {s : State} {m : MethodId} {below : List Frame} {meth : Method} {c : Code} (l : Launch) {b L : Nat} {xs : Nat → Int32} (hL : L ≤ 3072) (C0 : lw_At p s m meth c b L xs) : W p l e room_1 s m #[Value.ref b] below meth c s.heap [] 0 0 (lw_Z below #[Value.ref b] s) (entryFrame m ([Value.ref b] : List Value).toArray 4) := by
  obtain ⟨hx, hb, hr, hml, hown, hts, hX, hbl, hlocks, hgv⟩ := C0
  obtain ⟨G, hG, hkn, hst, hsk⟩ := g_has hts hgv
  have hl := lv_entry ([.ref b]) (n := 4) (Nat.le_of_ble_eq_true rfl)
  rw [lg_entry_eq]
  generalize (lg_sl ([.ref b]) ++ List.replicate (4 - (lg_sl ([.ref b])).length) Slot.unset).toArray = ls at hl ⊢
  have hl : lv_has ls 4 [(0, .ref b)] := hl
  have htg : ∀ w ∈ lw_g, w.before #[Value.ref b] s = true := fun w hw => hts w (List.mem_filter.mp hw).1
  have C : e_jC G ((600000, 7302249), some (p, l, e, room_1, s, m, #[Value.ref b], below, meth, c, lw_Z below #[Value.ref b] s, 0, 0, 0, 0, 4)) code 4 RL 2048 84000 := fun Y y => by
    cases y
    exact ⟨hx, hb, hml, rfl, hown, htg, hkn, hst, hsk, by rw [hG]; exact Nat.le_refl _, by show s.heap.size + 0 = G.1 + 0 + 0; omega, by show (600000 : Nat) = 0 + (600000 - 0); omega, by show (7302249 : Nat) = 0 + (7302249 - 0); omega, rfl, rfl⟩
  have CJ : jC G ((599886, 7302249 - 57410), some (p, l, e, room_1, s, m, #[Value.ref b], below, meth, c, lw_Z below #[Value.ref b] s, 0, 0, 114, 57410, 4)) code 4 RL 2048 84000 := fun Y y => by
    cases y
    exact ⟨hx, hb, hml, rfl, hown, htg, hkn, hst, hsk, by rw [hG]; exact Nat.le_refl _, by show s.heap.size + 114 = G.1 + 114 + 0; omega, by show (600000 : Nat) = 114 + (599886 - 0); omega, by show (7302249 : Nat) = 57410 + (7302249 - 57410 - 0); omega, rfl, rfl⟩
  have B : jB G ((599886, 7302249 - 57410), some (p, l, e, room_1, s, m, #[Value.ref b], below, meth, c, lw_Z below #[Value.ref b] s, 0, 0, 114, 57410, 4)) b L xs := ⟨by rw [hG]; exact hbl, fun Y y => by cases y; exact ⟨hX, hbl⟩⟩
  have Z : jZ G ((599886, 7302249 - 57410), some (p, l, e, room_1, s, m, #[Value.ref b], below, meth, c, lw_Z below #[Value.ref b] s, 0, 0, 114, 57410, 4)) b := fun Y y => by cases y; exact ⟨rfl, rfl, rfl, hr, hlocks, hG⟩
  obtain ⟨h', hm, o1, o2⟩ := PL xs L hL
  have K := k_Law_loop_18 CJ B Z (out := (1, h')) ⟨rfl, o1, o2⟩ hm
  have K0 := e_start hE1_is hE_is hE1_n C (e_to hE_rf hE_k hE_n hE_s K)
  have hW := K0.2 _ rfl s.heap [] ls (fun k q hk => by
    have := (List.getElem?_eq_some_iff.mp hk).1
    rw [e_cs_len] at this
    exact absurd this (Nat.not_lt_zero _)) va_S.rf hl (Nat.le_refl _) (Nat.le_refl _)
  exact hW
