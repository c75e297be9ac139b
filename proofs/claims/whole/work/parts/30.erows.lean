abbrev e_NS : Nat := 0
def e_KD : List (Nat × Nat) := []
def e_RS : List (List (Option Nat)) := []
def e_nid (h : Hp) : Nat := e_NS + hN h
def e_al (h : Hp) (t n : Nat) : Hp := (fun a => if a = e_nid h then (fun _ => 0) else hI h a, fun a => if a = e_nid h then (fun _ => 0) else hL h a, fun a => if a = e_nid h then (fun _ => none) else hR h a, hN h + 1, fun i => if i = hN h then (t, n) else hD h i, hS h + n)
/-- the kind of a node (0 int[], 1 long[], 2 boolean[], 3 byte[], 10 + c a row of class c's, 100 + c an object of class c) and its size -/
def e_kd (h : Hp) (j : Nat) : Nat × Nat := if j < e_NS then e_KD.getD j (0, 0) else hD h (j - e_NS)
def e_rs (j k : Nat) : Option Nat := (e_RS.getD j []).getD k none
def e_rf (h : Hp) (j k : Nat) : Option Nat := match e_rs j k with
  | some r => some r
  | none => hR h j k
def e_fv (b : Nat) (h : Hp) (j k t : Nat) : Value := if t = 1 then .long (hL h j k) else if t = 2 then va_rf ((e_rf h j k).map (b + ·)) else .int (hI h j k)
def e_obF (b : Nat) (h : Hp) (j : Nat) : Nat → List Nat → List Value
  | _, [] => []
  | k, t :: ts => e_fv b h j k t :: e_obF b h j (k + 1) ts
def e_ce (cA : Nat → ClassId) (b : Nat) (h : Hp) (j : Nat) : va_E :=
  if 100 ≤ (e_kd h j).1 then .inr ((e_kd h j).1 - 100, e_obF b h j 0 (FT.getD ((e_kd h j).1 - 100) []))
  else if 10 ≤ (e_kd h j).1 then .inl (cA (e_kd h j).1, (e_kd h j).2, .inr (.inr (.inr (.inr fun k => (e_rf h j k).map (b + ·)))))
  else if (e_kd h j).1 = 1 then .inl (cA 1, (e_kd h j).2, .inr (.inl (hL h j)))
  else .inl (cA (e_kd h j).1, (e_kd h j).2, .inl (hI h j))
def e_cs (cA : Nat → ClassId) (b : Nat) (h : Hp) : va_W := (List.range (e_nid h)).map fun j => (b + j, e_ce cA b h j)
def e_nd (h : Hp) (j t n : Nat) : Prop := e_kd h j = (t, n) ∧ j < e_nid h
theorem e_cs_get {cA : Nat → ClassId} {b : Nat} {h : Hp} {j : Nat} (hj : j < e_nid h) : (e_cs cA b h)[j]? = some (b + j, e_ce cA b h j) := by
  simp [e_cs, hj]
theorem e_cs_len {cA : Nat → ClassId} {b : Nat} {h : Hp} : (e_cs cA b h).length = e_nid h := by simp [e_cs]
theorem e_cs_at {cA : Nat → ClassId} {b : Nat} {h : Hp} {k : Nat} {q : Nat × va_E} (hq : (e_cs cA b h)[k]? = some q) : k < e_nid h ∧ q = (b + k, e_ce cA b h k) := by
  have hk : k < e_nid h := by
    have := (List.getElem?_eq_some_iff.mp hq).1
    rwa [e_cs_len] at this
  rw [e_cs_get hk] at hq
  exact ⟨hk, (Option.some.inj hq).symm⟩
theorem e_cs_D {cA : Nat → ClassId} {b : Nat} {h : Hp} : va_D (fun q => b ≤ q) (e_cs cA b h) := by
  refine ⟨fun i j p q hi hj e => ?_, fun k q hk => ?_⟩
  · obtain ⟨-, rfl⟩ := e_cs_at hi
    obtain ⟨-, rfl⟩ := e_cs_at hj
    have e : b + i = b + j := e
    omega
  · obtain ⟨-, rfl⟩ := e_cs_at hk
    exact Nat.le_add_right _ _
theorem e_cs_set {cA : Nat → ClassId} {b : Nat} {h h' : Hp} {j : Nat} {e : va_E} (hj : j < e_nid h) (hn : hN h' = hN h) (he : e_ce cA b h' j = e) (ho : ∀ i, i ≠ j → e_ce cA b h' i = e_ce cA b h i) : (e_cs cA b h).set j (b + j, e) = e_cs cA b h' := by
  have hz : e_nid h' = e_nid h := by rw [e_nid, e_nid, hn]
  apply List.ext_getElem?
  intro k
  by_cases hk : k < e_nid h
  · rw [e_cs_get (by rw [hz]; exact hk)]
    by_cases hkj : k = j
    · subst hkj
      rw [List.getElem?_set_self (by rw [e_cs_len]; exact hk), he]
    · rw [List.getElem?_set_ne (Ne.symm hkj), e_cs_get hk, ho k hkj]
  · rw [List.getElem?_eq_none (by rw [List.length_set, e_cs_len]; omega), List.getElem?_eq_none (by rw [e_cs_len]; omega)]
theorem e_cs_push {cA : Nat → ClassId} {b : Nat} {h h' : Hp} {e : va_E} (hn : hN h' = hN h + 1) (he : e_ce cA b h' (e_nid h) = e) (ho : ∀ i, i < e_nid h → e_ce cA b h' i = e_ce cA b h i) : e_cs cA b h ++ [(b + e_nid h, e)] = e_cs cA b h' := by
  have hz : e_nid h' = e_nid h + 1 := by rw [e_nid, e_nid, hn]; rfl
  apply List.ext_getElem?
  intro k
  by_cases hk : k < e_nid h
  · rw [List.getElem?_append_left (by rw [e_cs_len]; exact hk), e_cs_get hk, e_cs_get (by omega), ho k hk]
  · by_cases hk2 : k = e_nid h
    · subst hk2
      rw [List.getElem?_append_right (by rw [e_cs_len]; exact Nat.le_refl _), e_cs_len, Nat.sub_self, e_cs_get (by omega), he]
      rfl
    · rw [List.getElem?_eq_none (by rw [List.length_append, e_cs_len]; show e_nid h + 1 ≤ k; omega), List.getElem?_eq_none (by rw [e_cs_len]; omega)]
/-- cells by kind -/
theorem e_ce_i {cA : Nat → ClassId} {b : Nat} {h : Hp} {j t n : Nat} (hk : e_kd h j = (t, n)) (h1 : t < 10) (h2 : t ≠ 1) : e_ce cA b h j = .inl (cA t, n, .inl (hI h j)) := by
  rw [e_ce, hk, if_neg (by show ¬ 100 ≤ t; omega), if_neg (by show ¬ 10 ≤ t; omega), if_neg h2]
theorem e_ce_l {cA : Nat → ClassId} {b : Nat} {h : Hp} {j n : Nat} (hk : e_kd h j = (1, n)) : e_ce cA b h j = .inl (cA 1, n, .inr (.inl (hL h j))) := by
  rw [e_ce, hk, if_neg (by show ¬ 100 ≤ 1; omega), if_neg (by show ¬ 10 ≤ 1; omega), if_pos rfl]
theorem e_ce_q {cA : Nat → ClassId} {b : Nat} {h : Hp} {j t n : Nat} (hk : e_kd h j = (t, n)) (h1 : 10 ≤ t) (h2 : t < 100) : e_ce cA b h j = .inl (cA t, n, .inr (.inr (.inr (.inr fun k => (e_rf h j k).map (b + ·))))) := by
  rw [e_ce, hk, if_neg (by show ¬ 100 ≤ t; omega), if_pos h1]
theorem e_ce_o {cA : Nat → ClassId} {b : Nat} {h : Hp} {j c n : Nat} (hk : e_kd h j = (100 + c, n)) : e_ce cA b h j = .inr (c, e_obF b h j 0 (FT.getD c [])) := by
  rw [e_ce, hk, if_pos (by show 100 ≤ 100 + c; omega)]
  show Sum.inr (100 + c - 100, _) = _
  rw [Nat.add_sub_cancel_left]
theorem e_obF_len (b : Nat) (h : Hp) (j : Nat) : ∀ (ts : List Nat) (k : Nat), (e_obF b h j k ts).length = ts.length
  | [], _ => rfl
  | _ :: ts, k => congrArg (· + 1) (e_obF_len b h j ts (k + 1))
theorem e_obF_get (b : Nat) (h : Hp) (j : Nat) : ∀ (ts : List Nat) (k i : Nat) (t : Nat), ts[i]? = some t → (e_obF b h j k ts)[i]? = some (e_fv b h j (k + i) t)
  | [], _, _, _, e => by cases e
  | t0 :: ts, k, 0, t, e => by cases e; rfl
  | t0 :: ts, k, i + 1, t, e => by
    have := e_obF_get b h j ts (k + 1) i t e
    rw [show k + (i + 1) = k + 1 + i by omega]
    exact this
theorem e_obF_set (b : Nat) (h h' : Hp) (j : Nat) : ∀ (ts : List Nat) (k i : Nat) (v : Value), (∀ q, q ≠ k + i → ∀ t, e_fv b h' j q t = e_fv b h j q t) → (∀ t, ts[i]? = some t → e_fv b h' j (k + i) t = v) → (e_obF b h j k ts).set i v = e_obF b h' j k ts
  | [], _, _, _, _, _ => rfl
  | t0 :: ts, k, 0, v, ho, hv => by
    have h1 : ∀ (ts : List Nat) (k' : Nat), k < k' → e_obF b h j k' ts = e_obF b h' j k' ts := by
      intro ts
      induction ts with
      | nil => intro k' _; rfl
      | cons t ts ih => intro k' hk; rw [e_obF, e_obF, ho k' (by omega), ih (k' + 1) (by omega)]
    rw [e_obF, List.set_cons_zero, e_obF, h1 ts (k + 1) (by omega)]
    have := hv t0 rfl
    rw [Nat.add_zero] at this
    rw [this]
  | t0 :: ts, k, i + 1, v, ho, hv => by
    rw [e_obF, List.set_cons_succ, e_obF, ho k (by omega) t0]
    congr 1
    exact e_obF_set b h h' j ts (k + 1) i v (fun q hq => ho q (by omega)) (fun t ht => by rw [show k + 1 + i = k + (i + 1) by omega]; exact hv t ht)
/-- what a write leaves -/
theorem e_kd_sI {h : Hp} {j k : Nat} {v : Int32} (i : Nat) : e_kd (sI h j k v) i = e_kd h i := rfl
theorem e_kd_sL {h : Hp} {j k : Nat} {v : Int64} (i : Nat) : e_kd (sL h j k v) i = e_kd h i := rfl
theorem e_kd_sR {h : Hp} {j k : Nat} {v : Option Nat} (i : Nat) : e_kd (sR h j k v) i = e_kd h i := rfl
theorem e_kd_cpI {h : Hp} {a b : Nat} {sp dp n : Int32} (i : Nat) : e_kd (cpI h a sp b dp n) i = e_kd h i := rfl
theorem e_rf_sI {h : Hp} {j k : Nat} {v : Int32} (i q : Nat) : e_rf (sI h j k v) i q = e_rf h i q := rfl
theorem e_rf_sL {h : Hp} {j k : Nat} {v : Int64} (i q : Nat) : e_rf (sL h j k v) i q = e_rf h i q := rfl
theorem e_fv_congr {b : Nat} {h h' : Hp} {j k : Nat} (e1 : hI h' j k = hI h j k) (e2 : hL h' j k = hL h j k) (e3 : e_rf h' j k = e_rf h j k) (t : Nat) : e_fv b h' j k t = e_fv b h j k t := by
  rw [e_fv, e_fv, e1, e2, e3]
theorem e_obF_congr {b : Nat} {h h' : Hp} {j : Nat} (e1 : hI h' j = hI h j) (e2 : hL h' j = hL h j) (e3 : e_rf h' j = e_rf h j) : ∀ (ts : List Nat) (k : Nat), e_obF b h' j k ts = e_obF b h j k ts
  | [], _ => rfl
  | t :: ts, k => by
    rw [e_obF, e_obF, e_obF_congr e1 e2 e3 ts, e_fv_congr (h := h) (h' := h') (by rw [e1]) (by rw [e2]) (by rw [e3])]
theorem e_ce_congr {cA : Nat → ClassId} {b : Nat} {h h' : Hp} {j : Nat} (e0 : e_kd h' j = e_kd h j) (e1 : hI h' j = hI h j) (e2 : hL h' j = hL h j) (e3 : e_rf h' j = e_rf h j) : e_ce cA b h' j = e_ce cA b h j := by
  rw [e_ce, e_ce, e0, e1, e2, e3, e_obF_congr e1 e2 e3]
theorem e_rf_congr {h h' : Hp} {j : Nat} (e : hR h' j = hR h j) : e_rf h' j = e_rf h j := by
  funext k
  rw [e_rf, e_rf, e]
theorem e_ce_sI_ne {cA : Nat → ClassId} {b : Nat} {h : Hp} {j k : Nat} {v : Int32} {i : Nat} (hi : i ≠ j) : e_ce cA b (sI h j k v) i = e_ce cA b h i := e_ce_congr rfl (hI_sI_ne hi) rfl rfl
theorem e_ce_sL_ne {cA : Nat → ClassId} {b : Nat} {h : Hp} {j k : Nat} {v : Int64} {i : Nat} (hi : i ≠ j) : e_ce cA b (sL h j k v) i = e_ce cA b h i := e_ce_congr rfl rfl (hL_sL_ne hi) rfl
theorem e_ce_sR_ne {cA : Nat → ClassId} {b : Nat} {h : Hp} {j k : Nat} {v : Option Nat} {i : Nat} (hi : i ≠ j) : e_ce cA b (sR h j k v) i = e_ce cA b h i := e_ce_congr rfl rfl rfl (e_rf_congr (hR_sR_ne hi))
theorem e_ce_cpI_ne {cA : Nat → ClassId} {b : Nat} {h : Hp} {x y : Nat} {sp dp n : Int32} {i : Nat} (hi : i ≠ y) : e_ce cA b (cpI h x sp y dp n) i = e_ce cA b h i := e_ce_congr rfl (if_neg hi) rfl rfl
/-- a new node -/
theorem e_nid_lt {h : Hp} {i : Nat} (hi : i < e_nid h) : i ≠ e_nid h := Nat.ne_of_lt hi
theorem e_kd_al {h : Hp} {t n : Nat} : e_kd (e_al h t n) (e_nid h) = (t, n) := by
  have h1 : ¬ e_nid h < e_NS := by unfold e_nid; omega
  have h2 : e_nid h - e_NS = hN h := by unfold e_nid; omega
  rw [e_kd, if_neg h1, h2]
  exact if_pos rfl
theorem e_kd_al_lt {h : Hp} {t n i : Nat} (hi : i < e_nid h) : e_kd (e_al h t n) i = e_kd h i := by
  rw [e_kd, e_kd]
  by_cases h1 : i < e_NS
  · rw [if_pos h1, if_pos h1]
  · rw [if_neg h1, if_neg h1]
    exact if_neg (by unfold e_nid at hi; omega)
theorem e_ce_al_lt {cA : Nat → ClassId} {b : Nat} {h : Hp} {t n i : Nat} (hi : i < e_nid h) : e_ce cA b (e_al h t n) i = e_ce cA b h i :=
  e_ce_congr (e_kd_al_lt hi) (if_neg (e_nid_lt hi)) (if_neg (e_nid_lt hi)) (e_rf_congr (if_neg (e_nid_lt hi)))

section acc
variable (X : jY)
end acc
/-- the heap holds the store -/
def e_hp (G : jG) (h : Hp) (H : Heap) : Prop := va_P (Dg G) cls (e_cs (cAg G) G.1 h) H
def e_J (G : jG) (X : jX) (pc : Nat) (L : List (Nat × Value)) (st : List Value) (h : Hp) : Prop :=
  (hN h ≤ X.1.1 ∧ hS h ≤ X.1.2) ∧ ∀ (Y : jY) (y : X.2 = some Y) (H : Heap) (locs : List Loc) (ls : Array Slot), e_hp G h H → va_S (Ab G) (xs Y).heap H locs → lv_has ls (xnL Y) L → xn0 Y ≤ hN h → xs0 Y ≤ hS h → W (xP Y) (xl Y) (xe Y) (xR Y) (xs Y) (xm Y) (xa Y) (xb Y) (xM Y) (xc Y) H locs (xkb Y + (hN h - xn0 Y)) (xsb Y + (hS h - xs0 Y)) (xQ Y) (F0 (xm Y) pc ls st)
theorem e_J_mk {G : jG} {X : jX} {pc : Nat} {L : List (Nat × Value)} {st : List Value} {h : Hp} (h1 : hN h ≤ X.1.1 ∧ hS h ≤ X.1.2)
    (h2 : ∀ (Y : jY) (y : X.2 = some Y) (H : Heap) (locs : List Loc) (ls : Array Slot), e_hp G h H → va_S (Ab G) (xs Y).heap H locs → lv_has ls (xnL Y) L → xn0 Y ≤ hN h → xs0 Y ≤ hS h → W (xP Y) (xl Y) (xe Y) (xR Y) (xs Y) (xm Y) (xa Y) (xb Y) (xM Y) (xc Y) H locs (xkb Y + (hN h - xn0 Y)) (xsb Y + (hS h - xs0 Y)) (xQ Y) (F0 (xm Y) pc ls st)) : e_J G X pc L st h := And.intro h1 h2
/-- what a walk stands on -/
def e_jD (G : jG) (Y : jY) (nF sF : Nat) (cc : ByteArray) (nL : Nat) (own : String) (fr lo : Nat) : Prop :=
  ((xP Y).tables.exec = Jvm.exec) ∧ ((xc Y).code = cc) ∧ ((xc Y).maxLocals = nL) ∧ (xnL Y = nL) ∧ ((xs Y).vm.findClass own = some (xm Y).cls) ∧ (∀ w ∈ lw_g, w.before (xa Y) (xs Y) = true) ∧ (kn G (xs Y)) ∧ (stc G (xs Y) (xs Y).heap) ∧ (stk G (xs Y)) ∧ (G.1 ≤ (xs Y).heap.size) ∧ ((xs Y).heap.size + xkb Y = G.1 + e_NS + xn0 Y) ∧ ((xR Y).cells = xkb Y + (nF - xn0 Y)) ∧ ((xR Y).slots = xsb Y + (sF - xs0 Y)) ∧ ((xR Y).frames = fr) ∧ ((xR Y).locals = lo)
def e_jC (G : jG) (X : jX) (cc : ByteArray) (nL : Nat) (own : String) (fr lo : Nat) : Prop := ∀ (Y : jY), X.2 = some Y → e_jD G Y X.1.1 X.1.2 cc nL own fr lo
section jc
variable {G : jG} {Y : jY} {nF sF : Nat} {cc : ByteArray} {nL : Nat} {own : String} {fr lo : Nat}
theorem e_jD.x (C : e_jD G Y nF sF cc nL own fr lo) : (xP Y).tables.exec = Jvm.exec := C.1
theorem e_jD.b (C : e_jD G Y nF sF cc nL own fr lo) : (xc Y).code = cc := C.2.1
theorem e_jD.ml (C : e_jD G Y nF sF cc nL own fr lo) : (xc Y).maxLocals = nL := C.2.2.1
theorem e_jD.nl (C : e_jD G Y nF sF cc nL own fr lo) : xnL Y = nL := C.2.2.2.1
theorem e_jD.ow (C : e_jD G Y nF sF cc nL own fr lo) : (xs Y).vm.findClass own = some (xm Y).cls := C.2.2.2.2.1
theorem e_jD.ts (C : e_jD G Y nF sF cc nL own fr lo) : ∀ w ∈ lw_g, w.before (xa Y) (xs Y) = true := C.2.2.2.2.2.1
theorem e_jD.kn (C : e_jD G Y nF sF cc nL own fr lo) : kn G (xs Y) := C.2.2.2.2.2.2.1
theorem e_jD.st (C : e_jD G Y nF sF cc nL own fr lo) : stc G (xs Y) (xs Y).heap := C.2.2.2.2.2.2.2.1
theorem e_jD.sk (C : e_jD G Y nF sF cc nL own fr lo) : stk G (xs Y) := C.2.2.2.2.2.2.2.2.1
theorem e_jD.bs (C : e_jD G Y nF sF cc nL own fr lo) : G.1 ≤ (xs Y).heap.size := C.2.2.2.2.2.2.2.2.2.1
theorem e_jD.sz (C : e_jD G Y nF sF cc nL own fr lo) : (xs Y).heap.size + xkb Y = G.1 + e_NS + xn0 Y := C.2.2.2.2.2.2.2.2.2.2.1
theorem e_jD.rc (C : e_jD G Y nF sF cc nL own fr lo) : (xR Y).cells = xkb Y + (nF - xn0 Y) := C.2.2.2.2.2.2.2.2.2.2.2.1
theorem e_jD.rs (C : e_jD G Y nF sF cc nL own fr lo) : (xR Y).slots = xsb Y + (sF - xs0 Y) := C.2.2.2.2.2.2.2.2.2.2.2.2.1
theorem e_jD.fr_ (C : e_jD G Y nF sF cc nL own fr lo) : (xR Y).frames = fr := C.2.2.2.2.2.2.2.2.2.2.2.2.2.1
theorem e_jD.lo_ (C : e_jD G Y nF sF cc nL own fr lo) : (xR Y).locals = lo := C.2.2.2.2.2.2.2.2.2.2.2.2.2.2
theorem e_hp.D {h : Hp} {H : Heap} (_ : e_hp G h H) : va_D (Ab G) (e_cs (cAg G) G.1 h) := e_cs_D
theorem e_hp.at {h : Hp} {H : Heap} (_ : e_hp G h H) {j t n : Nat} (hj : e_nd h j t n) {e : va_E} (he : e_ce (cAg G) G.1 h j = e) : (e_cs (cAg G) G.1 h)[j]? = some (G.1 + j, e) := by rw [e_cs_get hj.2, he]
end jc
def e_ln (h : Hp) (r : Nat) : Nat := (e_kd h r).2
def e_ak {α : Type} (h : Hp) (r t : Nat) (F : Option α) : Option α := if r < e_nid h ∧ (e_kd h r).1 = t then F else none
def e_oq {α : Type} (h : Hp) (o : Option Nat) (t : Nat) (F : Option α) : Option α := match o with
  | none => F
  | some r => e_ak h r t F
def e_cy {α : Type} (h : Hp) (a : Nat) (sp : Int32) (b : Nat) (dp n : Int32) (F : Option α) : Option α := if (a < e_nid h ∧ (e_kd h a).1 = 0) ∧ (b < e_nid h ∧ (e_kd h b).1 = 0) ∧ ¬ sp < 0 ∧ ¬ dp < 0 ∧ ¬ n < 0 ∧ ix sp + ix n ≤ e_ln h a ∧ ix dp + ix n ≤ e_ln h b then F else none
theorem e_ak_inv {α : Type} {h : Hp} {r t : Nat} {F : Option α} {x : α} (e : e_ak h r t F = some x) : e_nd h r t (e_ln h r) ∧ F = some x := by
  unfold e_ak at e
  split at e
  · rename_i q
    exact ⟨⟨by rw [← q.2]; rfl, q.1⟩, e⟩
  · cases e
theorem e_cy_inv {α : Type} {h : Hp} {a : Nat} {sp : Int32} {b : Nat} {dp n : Int32} {F : Option α} {x : α} (e : e_cy h a sp b dp n F = some x) : (e_nd h a 0 (e_ln h a) ∧ e_nd h b 0 (e_ln h b) ∧ ¬ sp < 0 ∧ ¬ dp < 0 ∧ ¬ n < 0 ∧ ix sp + ix n ≤ e_ln h a ∧ ix dp + ix n ≤ e_ln h b) ∧ F = some x := by
  unfold e_cy at e
  split at e
  · rename_i q
    obtain ⟨⟨a1, a2⟩, ⟨b1, b2⟩, c⟩ := q
    exact ⟨⟨⟨by rw [← a2]; rfl, a1⟩, ⟨by rw [← b2]; rfl, b1⟩, c⟩, e⟩
  · cases e
section rows
variable {G : jG} {X : jX} {cc : ByteArray} {nL : Nat} {own : String} {fr lo : Nat} {pc : Nat} {L L' : List (Nat × Value)} {st : List Value} {h : Hp}
theorem e_j_sub (ks : List Nat) (hl : lv_pick L ks = L') (K : e_J G X pc L' st h) : e_J G X pc L st h := e_J_mk K.1 fun Y y H locs ls a1 a2 a3 a4 a5 => K.2 Y y H locs ls a1 a2 (lv_sub a3 ks hl) a4 a5
theorem e_j_eqS {st' : List Value} (e : st = st') (K : e_J G X pc L st' h) : e_J G X pc L st h := e ▸ K
theorem e_j_iconst (C : e_jC G X cc nL own fr lo) {n : Int} (v : Int32) (d : decode cc pc = .ok (.iconst n, 1)) (hv : Int32.ofInt n = v) (K : e_J G X (pc + 1) L (.int v :: st) h) : e_J G X pc L st h := e_J_mk K.1 fun Y y H locs ls a1 a2 a3 a4 a5 => lv_iconst (C Y y).x (C Y y).b d hv (K.2 Y y H locs ls a1 a2 a3 a4 a5)
theorem e_j_bipush (C : e_jC G X cc nL own fr lo) {n : Int} (v : Int32) (d : decode cc pc = .ok (.bipush n, 2)) (hv : (Int8.ofInt n).toInt32 = v) (K : e_J G X (pc + 2) L (.int v :: st) h) : e_J G X pc L st h := e_J_mk K.1 fun Y y H locs ls a1 a2 a3 a4 a5 => lv_bipush (C Y y).x (C Y y).b d hv (K.2 Y y H locs ls a1 a2 a3 a4 a5)
theorem e_j_sipush (C : e_jC G X cc nL own fr lo) {n : Int} (v : Int32) (d : decode cc pc = .ok (.sipush n, 3)) (hv : (Int16.ofInt n).toInt32 = v) (K : e_J G X (pc + 3) L (.int v :: st) h) : e_J G X pc L st h := e_J_mk K.1 fun Y y H locs ls a1 a2 a3 a4 a5 => lv_sipush (C Y y).x (C Y y).b d hv (K.2 Y y H locs ls a1 a2 a3 a4 a5)
theorem e_j_lconst (C : e_jC G X cc nL own fr lo) {n : Fin 2} (v : Int64) (d : decode cc pc = .ok (.lconst n, 1)) (hv : Int64.ofNat (n : Nat) = v) (K : e_J G X (pc + 1) L (.long v :: st) h) : e_J G X pc L st h := e_J_mk K.1 fun Y y H locs ls a1 a2 a3 a4 a5 => lv_lconst (C Y y).x (C Y y).b d hv (K.2 Y y H locs ls a1 a2 a3 a4 a5)
theorem e_j_null (C : e_jC G X cc nL own fr lo) (d : decode cc pc = .ok (.aconst_null, 1)) (K : e_J G X (pc + 1) L (.null :: st) h) : e_J G X pc L st h := e_J_mk K.1 fun Y y H locs ls a1 a2 a3 a4 a5 => lv_null (C Y y).x (C Y y).b d (K.2 Y y H locs ls a1 a2 a3 a4 a5)
theorem e_j_ldc (C : e_jC G X cc nL own fr lo) {index : Nat} {v : Int32} (w : Jvm.Cond.constant own index v ∈ lw_g) (d : decode cc pc = .ok (.ldc index, 2)) (K : e_J G X (pc + 2) L (.int v :: st) h) : e_J G X pc L st h := e_J_mk K.1 fun Y y H locs ls a1 a2 a3 a4 a5 => lv_ldc (C Y y).x (C Y y).b (C Y y).ow ((C Y y).ts _ w) d (K.2 Y y H locs ls a1 a2 a3 a4 a5)
theorem e_j_ldc2 (C : e_jC G X cc nL own fr lo) {index : Nat} {v : Int64} (w : Jvm.Cond.constantLong own index v ∈ lw_g) (d : decode cc pc = .ok (.ldc2_w index, 3)) (K : e_J G X (pc + 3) L (.long v :: st) h) : e_J G X pc L st h := e_J_mk K.1 fun Y y H locs ls a1 a2 a3 a4 a5 => lv_ldc2 (C Y y).x (C Y y).b (C Y y).ow ((C Y y).ts _ w) d (K.2 Y y H locs ls a1 a2 a3 a4 a5)
theorem e_j_ldcS (C : e_jC G X cc nL own fr lo) {index i : Nat} {tx : String} (w : KS[i]? = some (own, index, tx)) (d : decode cc pc = .ok (.ldc index, 2)) (K : e_J G X (pc + 2) L (.ref (skg G i) :: st) h) : e_J G X pc L st h := e_J_mk K.1 fun Y y H locs ls a1 a2 a3 a4 a5 => va_ldcS (C Y y).x (C Y y).b (C Y y).ow ((C Y y).sk i _ w) d (K.2 Y y H locs ls a1 a2 a3 a4 a5)
theorem e_j_iload_n (C : e_jC G X cc nL own fr lo) (n : Nat) {k : Fin 4} {i : Nat} {x : Int32} (d : decode cc pc = .ok (.iload_n k, 1)) (hi : (k : Nat) = i) (hl : L[n]? = some (i, .int x)) (K : e_J G X (pc + 1) L (.int x :: st) h) : e_J G X pc L st h := e_J_mk K.1 fun Y y H locs ls a1 a2 a3 a4 a5 => lv_iload_n (C Y y).x (C Y y).b d hi (lv_at a3 n hl) (K.2 Y y H locs ls a1 a2 a3 a4 a5)
theorem e_j_iload (C : e_jC G X cc nL own fr lo) (n : Nat) {i : Nat} {x : Int32} (d : decode cc pc = .ok (.iload i, 2)) (hl : L[n]? = some (i, .int x)) (K : e_J G X (pc + 2) L (.int x :: st) h) : e_J G X pc L st h := e_J_mk K.1 fun Y y H locs ls a1 a2 a3 a4 a5 => lv_iload (C Y y).x (C Y y).b d (lv_at a3 n hl) (K.2 Y y H locs ls a1 a2 a3 a4 a5)
theorem e_j_lload_n (C : e_jC G X cc nL own fr lo) (n : Nat) {k : Fin 4} {i : Nat} {x : Int64} (d : decode cc pc = .ok (.lload_n k, 1)) (hi : (k : Nat) = i) (hl : L[n]? = some (i, .long x)) (K : e_J G X (pc + 1) L (.long x :: st) h) : e_J G X pc L st h := e_J_mk K.1 fun Y y H locs ls a1 a2 a3 a4 a5 => lv_lload_n (C Y y).x (C Y y).b d hi (lv_at a3 n hl) (K.2 Y y H locs ls a1 a2 a3 a4 a5)
theorem e_j_lload (C : e_jC G X cc nL own fr lo) (n : Nat) {i : Nat} {x : Int64} (d : decode cc pc = .ok (.lload i, 2)) (hl : L[n]? = some (i, .long x)) (K : e_J G X (pc + 2) L (.long x :: st) h) : e_J G X pc L st h := e_J_mk K.1 fun Y y H locs ls a1 a2 a3 a4 a5 => lv_lload (C Y y).x (C Y y).b d (lv_at a3 n hl) (K.2 Y y H locs ls a1 a2 a3 a4 a5)
theorem e_j_aload_n (C : e_jC G X cc nL own fr lo) (n : Nat) {k : Fin 4} {i : Nat} {x : Nat} (d : decode cc pc = .ok (.aload_n k, 1)) (hi : (k : Nat) = i) (hl : L[n]? = some (i, .ref x)) (K : e_J G X (pc + 1) L (.ref x :: st) h) : e_J G X pc L st h := e_J_mk K.1 fun Y y H locs ls a1 a2 a3 a4 a5 => lv_aload_n (C Y y).x (C Y y).b d hi (lv_at a3 n hl) (K.2 Y y H locs ls a1 a2 a3 a4 a5)
theorem e_j_aload (C : e_jC G X cc nL own fr lo) (n : Nat) {i : Nat} {x : Nat} (d : decode cc pc = .ok (.aload i, 2)) (hl : L[n]? = some (i, .ref x)) (K : e_J G X (pc + 2) L (.ref x :: st) h) : e_J G X pc L st h := e_J_mk K.1 fun Y y H locs ls a1 a2 a3 a4 a5 => lv_aload (C Y y).x (C Y y).b d (lv_at a3 n hl) (K.2 Y y H locs ls a1 a2 a3 a4 a5)
theorem e_j_istore_n (C : e_jC G X cc nL own fr lo) (L' : List (Nat × Value)) {k : Fin 4} {i : Nat} {x : Int32} (d : decode cc pc = .ok (.istore_n k, 1)) (hi : (k : Nat) = i) (hn : i < nL) (hl : (i, Value.int x) :: L.filter (fun q => !(q.1 == i) && !(q.1 + 1 == i && q.2.category == 2)) = L') (K : e_J G X (pc + 1) L' st h) : e_J G X pc L (.int x :: st) h := e_J_mk K.1 fun Y y H locs ls a1 a2 a3 a4 a5 => lv_istore_n (C Y y).x (C Y y).b d hi a3 (by rw [(C Y y).nl]; exact hn) hl (fun ls a3 => K.2 Y y H locs ls a1 a2 a3 a4 a5)
theorem e_j_istore (C : e_jC G X cc nL own fr lo) (L' : List (Nat × Value)) {i : Nat} {x : Int32} (d : decode cc pc = .ok (.istore i, 2)) (hn : i < nL) (hl : (i, Value.int x) :: L.filter (fun q => !(q.1 == i) && !(q.1 + 1 == i && q.2.category == 2)) = L') (K : e_J G X (pc + 2) L' st h) : e_J G X pc L (.int x :: st) h := e_J_mk K.1 fun Y y H locs ls a1 a2 a3 a4 a5 => lv_istore (C Y y).x (C Y y).b d a3 (by rw [(C Y y).nl]; exact hn) hl (fun ls a3 => K.2 Y y H locs ls a1 a2 a3 a4 a5)
theorem e_j_lstore_n (C : e_jC G X cc nL own fr lo) (L' : List (Nat × Value)) {k : Fin 4} {i : Nat} {x : Int64} (d : decode cc pc = .ok (.lstore_n k, 1)) (hi : (k : Nat) = i) (hn : i + 1 < nL) (hl : (i, Value.long x) :: L.filter (fun q => !(q.1 == i) && (!(q.1 == i + 1) && !(q.1 + 1 == i && q.2.category == 2))) = L') (K : e_J G X (pc + 1) L' st h) : e_J G X pc L (.long x :: st) h := e_J_mk K.1 fun Y y H locs ls a1 a2 a3 a4 a5 => lv_lstore_n (C Y y).x (C Y y).b d hi a3 (by rw [(C Y y).nl]; exact hn) hl (fun ls a3 => K.2 Y y H locs ls a1 a2 a3 a4 a5)
theorem e_j_lstore (C : e_jC G X cc nL own fr lo) (L' : List (Nat × Value)) {i : Nat} {x : Int64} (d : decode cc pc = .ok (.lstore i, 2)) (hn : i + 1 < nL) (hl : (i, Value.long x) :: L.filter (fun q => !(q.1 == i) && (!(q.1 == i + 1) && !(q.1 + 1 == i && q.2.category == 2))) = L') (K : e_J G X (pc + 2) L' st h) : e_J G X pc L (.long x :: st) h := e_J_mk K.1 fun Y y H locs ls a1 a2 a3 a4 a5 => lv_lstore (C Y y).x (C Y y).b d a3 (by rw [(C Y y).nl]; exact hn) hl (fun ls a3 => K.2 Y y H locs ls a1 a2 a3 a4 a5)
theorem e_j_astore_n (C : e_jC G X cc nL own fr lo) (L' : List (Nat × Value)) {k : Fin 4} {i : Nat} {x : Nat} (d : decode cc pc = .ok (.astore_n k, 1)) (hi : (k : Nat) = i) (hn : i < nL) (hl : (i, Value.ref x) :: L.filter (fun q => !(q.1 == i) && !(q.1 + 1 == i && q.2.category == 2)) = L') (K : e_J G X (pc + 1) L' st h) : e_J G X pc L (.ref x :: st) h := e_J_mk K.1 fun Y y H locs ls a1 a2 a3 a4 a5 => lv_astore_n (C Y y).x (C Y y).b d hi a3 (by rw [(C Y y).nl]; exact hn) hl (fun ls a3 => K.2 Y y H locs ls a1 a2 a3 a4 a5)
theorem e_j_astore (C : e_jC G X cc nL own fr lo) (L' : List (Nat × Value)) {i : Nat} {x : Nat} (d : decode cc pc = .ok (.astore i, 2)) (hn : i < nL) (hl : (i, Value.ref x) :: L.filter (fun q => !(q.1 == i) && !(q.1 + 1 == i && q.2.category == 2)) = L') (K : e_J G X (pc + 2) L' st h) : e_J G X pc L (.ref x :: st) h := e_J_mk K.1 fun Y y H locs ls a1 a2 a3 a4 a5 => lv_astore (C Y y).x (C Y y).b d a3 (by rw [(C Y y).nl]; exact hn) hl (fun ls a3 => K.2 Y y H locs ls a1 a2 a3 a4 a5)
theorem e_j_iinc (C : e_jC G X cc nL own fr lo) (k : Nat) (L' : List (Nat × Value)) {i : Nat} {n : Int} {x v : Int32} (d : decode cc pc = .ok (.iinc i n, 3)) (hk : L[k]? = some (i, .int x)) (hv : x + Int32.ofInt n = v) (hn : i < nL) (hl : (i, Value.int v) :: L.filter (fun q => !(q.1 == i) && !(q.1 + 1 == i && q.2.category == 2)) = L') (K : e_J G X (pc + 3) L' st h) : e_J G X pc L st h := e_J_mk K.1 fun Y y H locs ls a1 a2 a3 a4 a5 => lv_iinc (C Y y).x (C Y y).b d a3 hk hv (by rw [(C Y y).nl]; exact hn) hl (fun ls a3 => K.2 Y y H locs ls a1 a2 a3 a4 a5)
theorem e_j_iadd (C : e_jC G X cc nL own fr lo) {x y : Int32} (d : decode cc pc = .ok (.iadd, 1)) (K : e_J G X (pc + 1) L (.int (x + y) :: st) h) : e_J G X pc L (.int y :: .int x :: st) h := e_J_mk K.1 fun Y y H locs ls a1 a2 a3 a4 a5 => lv_iadd (C Y y).x (C Y y).b d (K.2 Y y H locs ls a1 a2 a3 a4 a5)
theorem e_j_isub (C : e_jC G X cc nL own fr lo) {x y : Int32} (d : decode cc pc = .ok (.isub, 1)) (K : e_J G X (pc + 1) L (.int (x - y) :: st) h) : e_J G X pc L (.int y :: .int x :: st) h := e_J_mk K.1 fun Y y H locs ls a1 a2 a3 a4 a5 => lv_isub (C Y y).x (C Y y).b d (K.2 Y y H locs ls a1 a2 a3 a4 a5)
theorem e_j_imul (C : e_jC G X cc nL own fr lo) {x y : Int32} (d : decode cc pc = .ok (.imul, 1)) (K : e_J G X (pc + 1) L (.int (x * y) :: st) h) : e_J G X pc L (.int y :: .int x :: st) h := e_J_mk K.1 fun Y y H locs ls a1 a2 a3 a4 a5 => lv_imul (C Y y).x (C Y y).b d (K.2 Y y H locs ls a1 a2 a3 a4 a5)
theorem e_j_iand (C : e_jC G X cc nL own fr lo) {x y : Int32} (d : decode cc pc = .ok (.iand, 1)) (K : e_J G X (pc + 1) L (.int (x &&& y) :: st) h) : e_J G X pc L (.int y :: .int x :: st) h := e_J_mk K.1 fun Y y H locs ls a1 a2 a3 a4 a5 => lv_iand (C Y y).x (C Y y).b d (K.2 Y y H locs ls a1 a2 a3 a4 a5)
theorem e_j_ior (C : e_jC G X cc nL own fr lo) {x y : Int32} (d : decode cc pc = .ok (.ior, 1)) (K : e_J G X (pc + 1) L (.int (x ||| y) :: st) h) : e_J G X pc L (.int y :: .int x :: st) h := e_J_mk K.1 fun Y y H locs ls a1 a2 a3 a4 a5 => lv_ior (C Y y).x (C Y y).b d (K.2 Y y H locs ls a1 a2 a3 a4 a5)
theorem e_j_ixor (C : e_jC G X cc nL own fr lo) {x y : Int32} (d : decode cc pc = .ok (.ixor, 1)) (K : e_J G X (pc + 1) L (.int (x ^^^ y) :: st) h) : e_J G X pc L (.int y :: .int x :: st) h := e_J_mk K.1 fun Y y H locs ls a1 a2 a3 a4 a5 => lv_ixor (C Y y).x (C Y y).b d (K.2 Y y H locs ls a1 a2 a3 a4 a5)
theorem e_j_ishl (C : e_jC G X cc nL own fr lo) {x y : Int32} (d : decode cc pc = .ok (.ishl, 1)) (K : e_J G X (pc + 1) L (.int (z_shl x y) :: st) h) : e_J G X pc L (.int y :: .int x :: st) h := e_J_mk K.1 fun Y y H locs ls a1 a2 a3 a4 a5 => lv_ishl (C Y y).x (C Y y).b d (K.2 Y y H locs ls a1 a2 a3 a4 a5)
theorem e_j_ishr (C : e_jC G X cc nL own fr lo) {x y : Int32} (d : decode cc pc = .ok (.ishr, 1)) (K : e_J G X (pc + 1) L (.int (z_shr x y) :: st) h) : e_J G X pc L (.int y :: .int x :: st) h := e_J_mk K.1 fun Y y H locs ls a1 a2 a3 a4 a5 => lv_ishr (C Y y).x (C Y y).b d (K.2 Y y H locs ls a1 a2 a3 a4 a5)
theorem e_j_iushr (C : e_jC G X cc nL own fr lo) {x y : Int32} (d : decode cc pc = .ok (.iushr, 1)) (K : e_J G X (pc + 1) L (.int (z_ushr x y) :: st) h) : e_J G X pc L (.int y :: .int x :: st) h := e_J_mk K.1 fun Y y H locs ls a1 a2 a3 a4 a5 => lv_iushr (C Y y).x (C Y y).b d rfl (K.2 Y y H locs ls a1 a2 a3 a4 a5)
theorem e_j_ladd (C : e_jC G X cc nL own fr lo) {x y : Int64} (d : decode cc pc = .ok (.ladd, 1)) (K : e_J G X (pc + 1) L (.long (x + y) :: st) h) : e_J G X pc L (.long y :: .long x :: st) h := e_J_mk K.1 fun Y y H locs ls a1 a2 a3 a4 a5 => lv_ladd (C Y y).x (C Y y).b d (K.2 Y y H locs ls a1 a2 a3 a4 a5)
theorem e_j_lsub (C : e_jC G X cc nL own fr lo) {x y : Int64} (d : decode cc pc = .ok (.lsub, 1)) (K : e_J G X (pc + 1) L (.long (x - y) :: st) h) : e_J G X pc L (.long y :: .long x :: st) h := e_J_mk K.1 fun Y y H locs ls a1 a2 a3 a4 a5 => lv_lsub (C Y y).x (C Y y).b d (K.2 Y y H locs ls a1 a2 a3 a4 a5)
theorem e_j_lmul (C : e_jC G X cc nL own fr lo) {x y : Int64} (d : decode cc pc = .ok (.lmul, 1)) (K : e_J G X (pc + 1) L (.long (x * y) :: st) h) : e_J G X pc L (.long y :: .long x :: st) h := e_J_mk K.1 fun Y y H locs ls a1 a2 a3 a4 a5 => lv_lmul (C Y y).x (C Y y).b d (K.2 Y y H locs ls a1 a2 a3 a4 a5)
theorem e_j_land (C : e_jC G X cc nL own fr lo) {x y : Int64} (d : decode cc pc = .ok (.land, 1)) (K : e_J G X (pc + 1) L (.long (x &&& y) :: st) h) : e_J G X pc L (.long y :: .long x :: st) h := e_J_mk K.1 fun Y y H locs ls a1 a2 a3 a4 a5 => lv_land (C Y y).x (C Y y).b d (K.2 Y y H locs ls a1 a2 a3 a4 a5)
theorem e_j_lor (C : e_jC G X cc nL own fr lo) {x y : Int64} (d : decode cc pc = .ok (.lor, 1)) (K : e_J G X (pc + 1) L (.long (x ||| y) :: st) h) : e_J G X pc L (.long y :: .long x :: st) h := e_J_mk K.1 fun Y y H locs ls a1 a2 a3 a4 a5 => lv_lor (C Y y).x (C Y y).b d (K.2 Y y H locs ls a1 a2 a3 a4 a5)
theorem e_j_lxor (C : e_jC G X cc nL own fr lo) {x y : Int64} (d : decode cc pc = .ok (.lxor, 1)) (K : e_J G X (pc + 1) L (.long (x ^^^ y) :: st) h) : e_J G X pc L (.long y :: .long x :: st) h := e_J_mk K.1 fun Y y H locs ls a1 a2 a3 a4 a5 => lv_lxor (C Y y).x (C Y y).b d (K.2 Y y H locs ls a1 a2 a3 a4 a5)
theorem e_j_lushr (C : e_jC G X cc nL own fr lo) {x : Int64} {y : Int32} (d : decode cc pc = .ok (.lushr, 1)) (K : e_J G X (pc + 1) L (.long (z_lushr x y) :: st) h) : e_J G X pc L (.int y :: .long x :: st) h := e_J_mk K.1 fun Y y H locs ls a1 a2 a3 a4 a5 => lv_lushr (C Y y).x (C Y y).b d rfl (K.2 Y y H locs ls a1 a2 a3 a4 a5)
theorem e_j_lshl (C : e_jC G X cc nL own fr lo) {x : Int64} {y : Int32} (d : decode cc pc = .ok (.lshl, 1)) (K : e_J G X (pc + 1) L (.long (z_lshl x y) :: st) h) : e_J G X pc L (.int y :: .long x :: st) h := e_J_mk K.1 fun Y y H locs ls a1 a2 a3 a4 a5 => lv_lshl (C Y y).x (C Y y).b d rfl (K.2 Y y H locs ls a1 a2 a3 a4 a5)
theorem e_j_lshr (C : e_jC G X cc nL own fr lo) {x : Int64} {y : Int32} (d : decode cc pc = .ok (.lshr, 1)) (K : e_J G X (pc + 1) L (.long (z_lshr x y) :: st) h) : e_J G X pc L (.int y :: .long x :: st) h := e_J_mk K.1 fun Y y H locs ls a1 a2 a3 a4 a5 => lv_lshr (C Y y).x (C Y y).b d rfl (K.2 Y y H locs ls a1 a2 a3 a4 a5)
theorem e_j_lcmp (C : e_jC G X cc nL own fr lo) {x y : Int64} (d : decode cc pc = .ok (.lcmp, 1)) (K : e_J G X (pc + 1) L (.int (lg_cmp x y) :: st) h) : e_J G X pc L (.long y :: .long x :: st) h := e_J_mk K.1 fun Y y H locs ls a1 a2 a3 a4 a5 => W.lcmp (C Y y).x (C Y y).b d (K.2 Y y H locs ls a1 a2 a3 a4 a5)
theorem e_j_idiv (C : e_jC G X cc nL own fr lo) {x y : Int32} (d : decode cc pc = .ok (.idiv, 1)) (hz : ¬ y = 0) (K : e_J G X (pc + 1) L (.int (x / y) :: st) h) : e_J G X pc L (.int y :: .int x :: st) h := e_J_mk K.1 fun Y y H locs ls a1 a2 a3 a4 a5 => lv_idiv (C Y y).x (C Y y).b d hz (K.2 Y y H locs ls a1 a2 a3 a4 a5)
theorem e_j_irem (C : e_jC G X cc nL own fr lo) {x y : Int32} (d : decode cc pc = .ok (.irem, 1)) (hz : ¬ y = 0) (K : e_J G X (pc + 1) L (.int (z_rem x y) :: st) h) : e_J G X pc L (.int y :: .int x :: st) h := e_J_mk K.1 fun Y y H locs ls a1 a2 a3 a4 a5 => lv_irem (C Y y).x (C Y y).b d hz (K.2 Y y H locs ls a1 a2 a3 a4 a5)
theorem e_j_ldiv (C : e_jC G X cc nL own fr lo) {x y : Int64} (d : decode cc pc = .ok (.ldiv, 1)) (hz : ¬ y = 0) (K : e_J G X (pc + 1) L (.long (x / y) :: st) h) : e_J G X pc L (.long y :: .long x :: st) h := e_J_mk K.1 fun Y y H locs ls a1 a2 a3 a4 a5 => lv_ldiv (C Y y).x (C Y y).b d hz (K.2 Y y H locs ls a1 a2 a3 a4 a5)
theorem e_j_lrem (C : e_jC G X cc nL own fr lo) {x y : Int64} (d : decode cc pc = .ok (.lrem, 1)) (hz : ¬ y = 0) (K : e_J G X (pc + 1) L (.long (z_lrem x y) :: st) h) : e_J G X pc L (.long y :: .long x :: st) h := e_J_mk K.1 fun Y y H locs ls a1 a2 a3 a4 a5 => lv_lrem (C Y y).x (C Y y).b d hz (K.2 Y y H locs ls a1 a2 a3 a4 a5)
theorem e_j_ineg (C : e_jC G X cc nL own fr lo) {x : Int32} (d : decode cc pc = .ok (.ineg, 1)) (K : e_J G X (pc + 1) L (.int (-x) :: st) h) : e_J G X pc L (.int x :: st) h := e_J_mk K.1 fun Y y H locs ls a1 a2 a3 a4 a5 => lv_ineg (C Y y).x (C Y y).b d (K.2 Y y H locs ls a1 a2 a3 a4 a5)
theorem e_j_lneg (C : e_jC G X cc nL own fr lo) {x : Int64} (d : decode cc pc = .ok (.lneg, 1)) (K : e_J G X (pc + 1) L (.long (-x) :: st) h) : e_J G X pc L (.long x :: st) h := e_J_mk K.1 fun Y y H locs ls a1 a2 a3 a4 a5 => lv_lneg (C Y y).x (C Y y).b d (K.2 Y y H locs ls a1 a2 a3 a4 a5)
theorem e_j_i2l (C : e_jC G X cc nL own fr lo) {x : Int32} (d : decode cc pc = .ok (.i2l, 1)) (K : e_J G X (pc + 1) L (.long (Int32.toInt64 x) :: st) h) : e_J G X pc L (.int x :: st) h := e_J_mk K.1 fun Y y H locs ls a1 a2 a3 a4 a5 => lv_i2l (C Y y).x (C Y y).b d rfl (K.2 Y y H locs ls a1 a2 a3 a4 a5)
theorem e_j_l2i (C : e_jC G X cc nL own fr lo) {x : Int64} (d : decode cc pc = .ok (.l2i, 1)) (K : e_J G X (pc + 1) L (.int (Int64.toInt32 x) :: st) h) : e_J G X pc L (.long x :: st) h := e_J_mk K.1 fun Y y H locs ls a1 a2 a3 a4 a5 => lv_l2i (C Y y).x (C Y y).b d rfl (K.2 Y y H locs ls a1 a2 a3 a4 a5)
theorem e_j_i2b (C : e_jC G X cc nL own fr lo) {x : Int32} (d : decode cc pc = .ok (.i2b, 1)) (K : e_J G X (pc + 1) L (.int (z_i2b x) :: st) h) : e_J G X pc L (.int x :: st) h := e_J_mk K.1 fun Y y H locs ls a1 a2 a3 a4 a5 => lv_i2b (C Y y).x (C Y y).b d rfl (K.2 Y y H locs ls a1 a2 a3 a4 a5)
theorem e_j_i2s (C : e_jC G X cc nL own fr lo) {x : Int32} (d : decode cc pc = .ok (.i2s, 1)) (K : e_J G X (pc + 1) L (.int (z_i2s x) :: st) h) : e_J G X pc L (.int x :: st) h := e_J_mk K.1 fun Y y H locs ls a1 a2 a3 a4 a5 => lv_i2s (C Y y).x (C Y y).b d rfl (K.2 Y y H locs ls a1 a2 a3 a4 a5)
theorem e_j_i2c (C : e_jC G X cc nL own fr lo) {x : Int32} (d : decode cc pc = .ok (.i2c, 1)) (K : e_J G X (pc + 1) L (.int (z_i2c x) :: st) h) : e_J G X pc L (.int x :: st) h := e_J_mk K.1 fun Y y H locs ls a1 a2 a3 a4 a5 => lv_i2c (C Y y).x (C Y y).b d rfl (K.2 Y y H locs ls a1 a2 a3 a4 a5)
theorem e_j_dup (C : e_jC G X cc nL own fr lo) {va : Value} (d : decode cc pc = .ok (.dup, 1)) (ha : va.category = 1) (K : e_J G X (pc + 1) L (va :: va :: st) h) : e_J G X pc L (va :: st) h := e_J_mk K.1 fun Y y H locs ls a1 a2 a3 a4 a5 => lv_dup (C Y y).x (C Y y).b d ha (K.2 Y y H locs ls a1 a2 a3 a4 a5)
theorem e_j_pop (C : e_jC G X cc nL own fr lo) {va : Value} (d : decode cc pc = .ok (.pop, 1)) (ha : va.category = 1) (K : e_J G X (pc + 1) L st h) : e_J G X pc L (va :: st) h := e_J_mk K.1 fun Y y H locs ls a1 a2 a3 a4 a5 => lv_pop (C Y y).x (C Y y).b d ha (K.2 Y y H locs ls a1 a2 a3 a4 a5)
theorem e_j_pop2 (C : e_jC G X cc nL own fr lo) {va : Value} (d : decode cc pc = .ok (.pop2, 1)) (ha : va.category = 2) (K : e_J G X (pc + 1) L st h) : e_J G X pc L (va :: st) h := e_J_mk K.1 fun Y y H locs ls a1 a2 a3 a4 a5 => lv_pop2_2 (C Y y).x (C Y y).b d ha (K.2 Y y H locs ls a1 a2 a3 a4 a5)
theorem e_j_dup2_2 (C : e_jC G X cc nL own fr lo) {va : Value} (d : decode cc pc = .ok (.dup2, 1)) (ha : va.category = 2) (K : e_J G X (pc + 1) L (va :: va :: st) h) : e_J G X pc L (va :: st) h := e_J_mk K.1 fun Y y H locs ls a1 a2 a3 a4 a5 => lv_dup2_2 (C Y y).x (C Y y).b d ha (K.2 Y y H locs ls a1 a2 a3 a4 a5)
theorem e_j_dup2_11 (C : e_jC G X cc nL own fr lo) {va vb : Value} (d : decode cc pc = .ok (.dup2, 1)) (ha : va.category = 1) (hb : vb.category = 1) (K : e_J G X (pc + 1) L (va :: vb :: va :: vb :: st) h) : e_J G X pc L (va :: vb :: st) h := e_J_mk K.1 fun Y y H locs ls a1 a2 a3 a4 a5 => lv_dup2_11 (C Y y).x (C Y y).b d ha hb (K.2 Y y H locs ls a1 a2 a3 a4 a5)
theorem e_j_dup_x1 (C : e_jC G X cc nL own fr lo) {va vb : Value} (d : decode cc pc = .ok (.dup_x1, 1)) (ha : va.category = 1) (hb : vb.category = 1) (K : e_J G X (pc + 1) L (va :: vb :: va :: st) h) : e_J G X pc L (va :: vb :: st) h := e_J_mk K.1 fun Y y H locs ls a1 a2 a3 a4 a5 => lv_dup_x1 (C Y y).x (C Y y).b d ha hb (K.2 Y y H locs ls a1 a2 a3 a4 a5)
theorem e_j_dup_x2 (C : e_jC G X cc nL own fr lo) {va vb vd : Value} (d : decode cc pc = .ok (.dup_x2, 1)) (ha : va.category = 1) (hb : vb.category = 1) (hd : vd.category = 1) (K : e_J G X (pc + 1) L (va :: vb :: vd :: va :: st) h) : e_J G X pc L (va :: vb :: vd :: st) h := e_J_mk K.1 fun Y y H locs ls a1 a2 a3 a4 a5 => lv_dup_x2 (C Y y).x (C Y y).b d ha hb hd (K.2 Y y H locs ls a1 a2 a3 a4 a5)
theorem e_j_goto (C : e_jC G X cc nL own fr lo) (tgt : Nat) {off : Int} (d : decode cc pc = .ok (.goto off, 3)) (ht : (pc : Int) + off = (tgt : Int)) (K : e_J G X tgt L st h) : e_J G X pc L st h := e_J_mk K.1 fun Y y H locs ls a1 a2 a3 a4 a5 => lv_goto (C Y y).x (C Y y).b d ht (K.2 Y y H locs ls a1 a2 a3 a4 a5)
theorem e_j_ifeq (C : e_jC G X cc nL own fr lo) (tgt : Nat) {off : Int} {x : Int32} {α : Type} {A B : Option α} {x_ : α} (d : decode cc pc = .ok (.ifCond .eq off, 3)) (ht : (pc : Int) + off = (tgt : Int)) (hm : (if x = 0 then A else B) = some x_) (K1 : A = some x_ → e_J G X tgt L st h) (K2 : B = some x_ → e_J G X (pc + 3) L st h) : e_J G X pc L (.int x :: st) h := by
  rcases if_inv hm with ⟨q, hm⟩ | ⟨q, hm⟩
  · exact e_J_mk (K1 hm).1 fun Y y H locs ls a1 a2 a3 a4 a5 => lv_if_eq (C Y y).x (C Y y).b d ht (fun _ => (K1 hm).2 Y y H locs ls a1 a2 a3 a4 a5) (fun z => by first | exact absurd z q | exact absurd q z)
  · exact e_J_mk (K2 hm).1 fun Y y H locs ls a1 a2 a3 a4 a5 => lv_if_eq (C Y y).x (C Y y).b d ht (fun z => by first | exact absurd z q | exact absurd q z) (fun _ => (K2 hm).2 Y y H locs ls a1 a2 a3 a4 a5)
theorem e_j_ifne (C : e_jC G X cc nL own fr lo) (tgt : Nat) {off : Int} {x : Int32} {α : Type} {A B : Option α} {x_ : α} (d : decode cc pc = .ok (.ifCond .ne off, 3)) (ht : (pc : Int) + off = (tgt : Int)) (hm : (if x = 0 then A else B) = some x_) (K1 : A = some x_ → e_J G X (pc + 3) L st h) (K2 : B = some x_ → e_J G X tgt L st h) : e_J G X pc L (.int x :: st) h := by
  rcases if_inv hm with ⟨q, hm⟩ | ⟨q, hm⟩
  · exact e_J_mk (K1 hm).1 fun Y y H locs ls a1 a2 a3 a4 a5 => lv_if_ne (C Y y).x (C Y y).b d ht (fun z => by first | exact absurd z q | exact absurd q z) (fun _ => (K1 hm).2 Y y H locs ls a1 a2 a3 a4 a5)
  · exact e_J_mk (K2 hm).1 fun Y y H locs ls a1 a2 a3 a4 a5 => lv_if_ne (C Y y).x (C Y y).b d ht (fun _ => (K2 hm).2 Y y H locs ls a1 a2 a3 a4 a5) (fun z => by first | exact absurd z q | exact absurd q z)
theorem e_j_iflt (C : e_jC G X cc nL own fr lo) (tgt : Nat) {off : Int} {x : Int32} {α : Type} {A B : Option α} {x_ : α} (d : decode cc pc = .ok (.ifCond .lt off, 3)) (ht : (pc : Int) + off = (tgt : Int)) (hm : (if x < 0 then A else B) = some x_) (K1 : A = some x_ → e_J G X tgt L st h) (K2 : B = some x_ → e_J G X (pc + 3) L st h) : e_J G X pc L (.int x :: st) h := by
  rcases if_inv hm with ⟨q, hm⟩ | ⟨q, hm⟩
  · exact e_J_mk (K1 hm).1 fun Y y H locs ls a1 a2 a3 a4 a5 => lv_if_lt (C Y y).x (C Y y).b d ht (fun _ => (K1 hm).2 Y y H locs ls a1 a2 a3 a4 a5) (fun z => by first | exact absurd z q | exact absurd q z)
  · exact e_J_mk (K2 hm).1 fun Y y H locs ls a1 a2 a3 a4 a5 => lv_if_lt (C Y y).x (C Y y).b d ht (fun z => by first | exact absurd z q | exact absurd q z) (fun _ => (K2 hm).2 Y y H locs ls a1 a2 a3 a4 a5)
theorem e_j_ifge (C : e_jC G X cc nL own fr lo) (tgt : Nat) {off : Int} {x : Int32} {α : Type} {A B : Option α} {x_ : α} (d : decode cc pc = .ok (.ifCond .ge off, 3)) (ht : (pc : Int) + off = (tgt : Int)) (hm : (if 0 ≤ x then A else B) = some x_) (K1 : A = some x_ → e_J G X tgt L st h) (K2 : B = some x_ → e_J G X (pc + 3) L st h) : e_J G X pc L (.int x :: st) h := by
  rcases if_inv hm with ⟨q, hm⟩ | ⟨q, hm⟩
  · exact e_J_mk (K1 hm).1 fun Y y H locs ls a1 a2 a3 a4 a5 => lv_if_ge (C Y y).x (C Y y).b d ht (fun _ => (K1 hm).2 Y y H locs ls a1 a2 a3 a4 a5) (fun z => by first | exact absurd z q | exact absurd q z)
  · exact e_J_mk (K2 hm).1 fun Y y H locs ls a1 a2 a3 a4 a5 => lv_if_ge (C Y y).x (C Y y).b d ht (fun z => by first | exact absurd z q | exact absurd q z) (fun _ => (K2 hm).2 Y y H locs ls a1 a2 a3 a4 a5)
theorem e_j_ifgt (C : e_jC G X cc nL own fr lo) (tgt : Nat) {off : Int} {x : Int32} {α : Type} {A B : Option α} {x_ : α} (d : decode cc pc = .ok (.ifCond .gt off, 3)) (ht : (pc : Int) + off = (tgt : Int)) (hm : (if 0 < x then A else B) = some x_) (K1 : A = some x_ → e_J G X tgt L st h) (K2 : B = some x_ → e_J G X (pc + 3) L st h) : e_J G X pc L (.int x :: st) h := by
  rcases if_inv hm with ⟨q, hm⟩ | ⟨q, hm⟩
  · exact e_J_mk (K1 hm).1 fun Y y H locs ls a1 a2 a3 a4 a5 => lv_if_gt (C Y y).x (C Y y).b d ht (fun _ => (K1 hm).2 Y y H locs ls a1 a2 a3 a4 a5) (fun z => by first | exact absurd z q | exact absurd q z)
  · exact e_J_mk (K2 hm).1 fun Y y H locs ls a1 a2 a3 a4 a5 => lv_if_gt (C Y y).x (C Y y).b d ht (fun z => by first | exact absurd z q | exact absurd q z) (fun _ => (K2 hm).2 Y y H locs ls a1 a2 a3 a4 a5)
theorem e_j_ifle (C : e_jC G X cc nL own fr lo) (tgt : Nat) {off : Int} {x : Int32} {α : Type} {A B : Option α} {x_ : α} (d : decode cc pc = .ok (.ifCond .le off, 3)) (ht : (pc : Int) + off = (tgt : Int)) (hm : (if x ≤ 0 then A else B) = some x_) (K1 : A = some x_ → e_J G X tgt L st h) (K2 : B = some x_ → e_J G X (pc + 3) L st h) : e_J G X pc L (.int x :: st) h := by
  rcases if_inv hm with ⟨q, hm⟩ | ⟨q, hm⟩
  · exact e_J_mk (K1 hm).1 fun Y y H locs ls a1 a2 a3 a4 a5 => lv_if_le (C Y y).x (C Y y).b d ht (fun _ => (K1 hm).2 Y y H locs ls a1 a2 a3 a4 a5) (fun z => by first | exact absurd z q | exact absurd q z)
  · exact e_J_mk (K2 hm).1 fun Y y H locs ls a1 a2 a3 a4 a5 => lv_if_le (C Y y).x (C Y y).b d ht (fun z => by first | exact absurd z q | exact absurd q z) (fun _ => (K2 hm).2 Y y H locs ls a1 a2 a3 a4 a5)
theorem e_j_if_icmpeq (C : e_jC G X cc nL own fr lo) (tgt : Nat) {off : Int} {x y : Int32} {α : Type} {A B : Option α} {x_ : α} (d : decode cc pc = .ok (.if_icmp .eq off, 3)) (ht : (pc : Int) + off = (tgt : Int)) (hm : (if x = y then A else B) = some x_) (K1 : A = some x_ → e_J G X tgt L st h) (K2 : B = some x_ → e_J G X (pc + 3) L st h) : e_J G X pc L (.int y :: .int x :: st) h := by
  rcases if_inv hm with ⟨q, hm⟩ | ⟨q, hm⟩
  · exact e_J_mk (K1 hm).1 fun Y y H locs ls a1 a2 a3 a4 a5 => lv_icmp_eq (C Y y).x (C Y y).b d ht (fun _ => (K1 hm).2 Y y H locs ls a1 a2 a3 a4 a5) (fun z => by first | exact absurd z q | exact absurd q z)
  · exact e_J_mk (K2 hm).1 fun Y y H locs ls a1 a2 a3 a4 a5 => lv_icmp_eq (C Y y).x (C Y y).b d ht (fun z => by first | exact absurd z q | exact absurd q z) (fun _ => (K2 hm).2 Y y H locs ls a1 a2 a3 a4 a5)
theorem e_j_if_icmpne (C : e_jC G X cc nL own fr lo) (tgt : Nat) {off : Int} {x y : Int32} {α : Type} {A B : Option α} {x_ : α} (d : decode cc pc = .ok (.if_icmp .ne off, 3)) (ht : (pc : Int) + off = (tgt : Int)) (hm : (if x = y then A else B) = some x_) (K1 : A = some x_ → e_J G X (pc + 3) L st h) (K2 : B = some x_ → e_J G X tgt L st h) : e_J G X pc L (.int y :: .int x :: st) h := by
  rcases if_inv hm with ⟨q, hm⟩ | ⟨q, hm⟩
  · exact e_J_mk (K1 hm).1 fun Y y H locs ls a1 a2 a3 a4 a5 => lv_icmp_ne (C Y y).x (C Y y).b d ht (fun z => by first | exact absurd z q | exact absurd q z) (fun _ => (K1 hm).2 Y y H locs ls a1 a2 a3 a4 a5)
  · exact e_J_mk (K2 hm).1 fun Y y H locs ls a1 a2 a3 a4 a5 => lv_icmp_ne (C Y y).x (C Y y).b d ht (fun _ => (K2 hm).2 Y y H locs ls a1 a2 a3 a4 a5) (fun z => by first | exact absurd z q | exact absurd q z)
theorem e_j_if_icmplt (C : e_jC G X cc nL own fr lo) (tgt : Nat) {off : Int} {x y : Int32} {α : Type} {A B : Option α} {x_ : α} (d : decode cc pc = .ok (.if_icmp .lt off, 3)) (ht : (pc : Int) + off = (tgt : Int)) (hm : (if x < y then A else B) = some x_) (K1 : A = some x_ → e_J G X tgt L st h) (K2 : B = some x_ → e_J G X (pc + 3) L st h) : e_J G X pc L (.int y :: .int x :: st) h := by
  rcases if_inv hm with ⟨q, hm⟩ | ⟨q, hm⟩
  · exact e_J_mk (K1 hm).1 fun Y y H locs ls a1 a2 a3 a4 a5 => lv_icmp_lt (C Y y).x (C Y y).b d ht (fun _ => (K1 hm).2 Y y H locs ls a1 a2 a3 a4 a5) (fun z => by first | exact absurd z q | exact absurd q z)
  · exact e_J_mk (K2 hm).1 fun Y y H locs ls a1 a2 a3 a4 a5 => lv_icmp_lt (C Y y).x (C Y y).b d ht (fun z => by first | exact absurd z q | exact absurd q z) (fun _ => (K2 hm).2 Y y H locs ls a1 a2 a3 a4 a5)
theorem e_j_if_icmpge (C : e_jC G X cc nL own fr lo) (tgt : Nat) {off : Int} {x y : Int32} {α : Type} {A B : Option α} {x_ : α} (d : decode cc pc = .ok (.if_icmp .ge off, 3)) (ht : (pc : Int) + off = (tgt : Int)) (hm : (if y ≤ x then A else B) = some x_) (K1 : A = some x_ → e_J G X tgt L st h) (K2 : B = some x_ → e_J G X (pc + 3) L st h) : e_J G X pc L (.int y :: .int x :: st) h := by
  rcases if_inv hm with ⟨q, hm⟩ | ⟨q, hm⟩
  · exact e_J_mk (K1 hm).1 fun Y y H locs ls a1 a2 a3 a4 a5 => lv_icmp_ge (C Y y).x (C Y y).b d ht (fun _ => (K1 hm).2 Y y H locs ls a1 a2 a3 a4 a5) (fun z => by first | exact absurd z q | exact absurd q z)
  · exact e_J_mk (K2 hm).1 fun Y y H locs ls a1 a2 a3 a4 a5 => lv_icmp_ge (C Y y).x (C Y y).b d ht (fun z => by first | exact absurd z q | exact absurd q z) (fun _ => (K2 hm).2 Y y H locs ls a1 a2 a3 a4 a5)
theorem e_j_if_icmpgt (C : e_jC G X cc nL own fr lo) (tgt : Nat) {off : Int} {x y : Int32} {α : Type} {A B : Option α} {x_ : α} (d : decode cc pc = .ok (.if_icmp .gt off, 3)) (ht : (pc : Int) + off = (tgt : Int)) (hm : (if y < x then A else B) = some x_) (K1 : A = some x_ → e_J G X tgt L st h) (K2 : B = some x_ → e_J G X (pc + 3) L st h) : e_J G X pc L (.int y :: .int x :: st) h := by
  rcases if_inv hm with ⟨q, hm⟩ | ⟨q, hm⟩
  · exact e_J_mk (K1 hm).1 fun Y y H locs ls a1 a2 a3 a4 a5 => lv_icmp_gt (C Y y).x (C Y y).b d ht (fun _ => (K1 hm).2 Y y H locs ls a1 a2 a3 a4 a5) (fun z => by first | exact absurd z q | exact absurd q z)
  · exact e_J_mk (K2 hm).1 fun Y y H locs ls a1 a2 a3 a4 a5 => lv_icmp_gt (C Y y).x (C Y y).b d ht (fun z => by first | exact absurd z q | exact absurd q z) (fun _ => (K2 hm).2 Y y H locs ls a1 a2 a3 a4 a5)
theorem e_j_if_icmple (C : e_jC G X cc nL own fr lo) (tgt : Nat) {off : Int} {x y : Int32} {α : Type} {A B : Option α} {x_ : α} (d : decode cc pc = .ok (.if_icmp .le off, 3)) (ht : (pc : Int) + off = (tgt : Int)) (hm : (if x ≤ y then A else B) = some x_) (K1 : A = some x_ → e_J G X tgt L st h) (K2 : B = some x_ → e_J G X (pc + 3) L st h) : e_J G X pc L (.int y :: .int x :: st) h := by
  rcases if_inv hm with ⟨q, hm⟩ | ⟨q, hm⟩
  · exact e_J_mk (K1 hm).1 fun Y y H locs ls a1 a2 a3 a4 a5 => lv_icmp_le (C Y y).x (C Y y).b d ht (fun _ => (K1 hm).2 Y y H locs ls a1 a2 a3 a4 a5) (fun z => by first | exact absurd z q | exact absurd q z)
  · exact e_J_mk (K2 hm).1 fun Y y H locs ls a1 a2 a3 a4 a5 => lv_icmp_le (C Y y).x (C Y y).b d ht (fun z => by first | exact absurd z q | exact absurd q z) (fun _ => (K2 hm).2 Y y H locs ls a1 a2 a3 a4 a5)
theorem e_j_ifnull (C : e_jC G X cc nL own fr lo) {a : Nat} {off : Int} (d : decode cc pc = .ok (.ifnull off, 3)) (K : e_J G X (pc + 3) L st h) : e_J G X pc L (.ref a :: st) h := e_J_mk K.1 fun Y y H locs ls a1 a2 a3 a4 a5 => lv_ifnull (C Y y).x (C Y y).b d (K.2 Y y H locs ls a1 a2 a3 a4 a5)
theorem e_j_ifnonnull (C : e_jC G X cc nL own fr lo) (tgt : Nat) {a : Nat} {off : Int} (d : decode cc pc = .ok (.ifnonnull off, 3)) (ht : (pc : Int) + off = (tgt : Int)) (K : e_J G X tgt L st h) : e_J G X pc L (.ref a :: st) h := e_J_mk K.1 fun Y y H locs ls a1 a2 a3 a4 a5 => lv_ifnonnull (C Y y).x (C Y y).b d ht (K.2 Y y H locs ls a1 a2 a3 a4 a5)
theorem e_j_ifnullN (C : e_jC G X cc nL own fr lo) (tgt : Nat) {off : Int} (d : decode cc pc = .ok (.ifnull off, 3)) (ht : (pc : Int) + off = (tgt : Int)) (K : e_J G X tgt L st h) : e_J G X pc L (.null :: st) h := e_J_mk K.1 fun Y y H locs ls a1 a2 a3 a4 a5 => lv_ifnullN (C Y y).x (C Y y).b d ht (K.2 Y y H locs ls a1 a2 a3 a4 a5)
theorem e_j_ifnonnullN (C : e_jC G X cc nL own fr lo) {off : Int} (d : decode cc pc = .ok (.ifnonnull off, 3)) (K : e_J G X (pc + 3) L st h) : e_J G X pc L (.null :: st) h := e_J_mk K.1 fun Y y H locs ls a1 a2 a3 a4 a5 => lv_ifnonnullN (C Y y).x (C Y y).b d (K.2 Y y H locs ls a1 a2 a3 a4 a5)
end rows
section heap
variable {G : jG} {X : jX} {cc : ByteArray} {nL : Nat} {own : String} {fr lo : Nat} {pc : Nat} {L L' : List (Nat × Value)} {st : List Value} {h : Hp} {α : Type} {F : Option α} {x_ : α}
theorem e_j_size {Y : jY} {nF sF : Nat} (C : e_jD G Y nF sF cc nL own fr lo) {H : Heap} {locs : List Loc} (a1 : e_hp G h H) (a2 : va_S (Ab G) (xs Y).heap H locs) (a4 : xn0 Y ≤ hN h) (hz : H.size ≤ (xs Y).heap.size + (xkb Y + (hN h - xn0 Y))) : H.size = G.1 + e_nid h := by
  have h1 := C.sz
  have h0 := C.bs
  have hs := a2.1
  have hu : H.size ≤ G.1 + e_nid h := by unfold e_nid; omega
  by_cases h2 : e_nid h - 1 < e_nid h
  · have h3 : G.1 + (e_nid h - 1) < H.size := va_at.lt (a1 (e_nid h - 1) _ (e_cs_get h2))
    omega
  · omega
theorem e_j_nmI {x : Int32} {F' : Int32 → Option α} (hm : lt x F' = some x_) (K : ∀ x, F' x = some x_ → e_J G X pc L (.int x :: st) h) : e_J G X pc L (.int x :: st) h := K x hm
theorem e_j_nmL {x : Int64} {F' : Int64 → Option α} (hm : lt x F' = some x_) (K : ∀ x, F' x = some x_ → e_J G X pc L (.long x :: st) h) : e_J G X pc L (.long x :: st) h := K x hm
theorem e_j_nmH {F' : Hp → Option α} (hm : lt h F' = some x_) (K : ∀ h, F' h = some x_ → e_J G X pc L st h) : e_J G X pc L st h := K h hm
theorem e_fv_at {own : String} {index ci k ty : Nat} {fin : Bool} {b j : Nat} (f : fF own index ci k ty fin) : (e_obF b h j 0 (FT.getD ci []))[k]? = some (e_fv b h j k ty) := by
  obtain ⟨Cn, T, N, tyf, f1, f2, f3, f4, f5, -⟩ := f
  rw [e_obF_get _ _ _ _ _ _ _ f5, Nat.zero_add]
/-- a field is read, of any kind -/
theorem e_j_get (C : e_jC G X cc nL own fr lo) {index ci k ty n j : Nat} {fin : Bool} (f : fF own index ci k ty fin) (hj : e_nd h j (100 + ci) n) {v : Value} (hv : e_fv G.1 h j k ty = v) (d : decode cc pc = .ok (.getfield index, 3)) (K : e_J G X (pc + 3) L (v :: st) h) : e_J G X pc L (.ref (G.1 + j) :: st) h := by
  have hg := e_fv_at (h := h) (b := G.1) (j := j) f
  rw [hv] at hg
  obtain ⟨Cn, T, N, tyf, f1, f2, f3, f4, f5, f6, f7, f8, f9⟩ := f
  refine e_J_mk K.1 fun Y y H locs ls a1 a2 a3 a4 a5 => ?_
  exact va_get (C Y y).x (C Y y).b (C Y y).ts f2 (C Y y).ow (C Y y).kn.1 a1 j (a1.at hj (e_ce_o hj.1)) f1 k f3 ((C Y y).ts _ f4) (fun _ q => q) hg d (K.2 Y y H locs ls a1 a2 a3 a4 a5)
theorem e_j_gI (C : e_jC G X cc nL own fr lo) {index ci k n j : Nat} {fin : Bool} (f : fF own index ci k 0 fin) (hj : e_nd h j (100 + ci) n) (d : decode cc pc = .ok (.getfield index, 3)) (K : e_J G X (pc + 3) L (.int (hI h j k) :: st) h) : e_J G X pc L (.ref (G.1 + j) :: st) h := e_j_get C f hj rfl d K
theorem e_j_gZ (C : e_jC G X cc nL own fr lo) {index ci k n j : Nat} {fin : Bool} (f : fF own index ci k 3 fin) (hj : e_nd h j (100 + ci) n) (d : decode cc pc = .ok (.getfield index, 3)) (K : e_J G X (pc + 3) L (.int (hI h j k) :: st) h) : e_J G X pc L (.ref (G.1 + j) :: st) h := e_j_get C f hj rfl d K
theorem e_j_gL (C : e_jC G X cc nL own fr lo) {index ci k n j : Nat} {fin : Bool} (f : fF own index ci k 1 fin) (hj : e_nd h j (100 + ci) n) (d : decode cc pc = .ok (.getfield index, 3)) (K : e_J G X (pc + 3) L (.long (hL h j k) :: st) h) : e_J G X pc L (.ref (G.1 + j) :: st) h := e_j_get C f hj rfl d K
theorem e_j_gR (C : e_jC G X cc nL own fr lo) {index ci k n j : Nat} {fin : Bool} (f : fF own index ci k 2 fin) (hj : e_nd h j (100 + ci) n) (hr : e_rs j k = none) (d : decode cc pc = .ok (.getfield index, 3)) (K : e_J G X (pc + 3) L (rv G (hR h j k) :: st) h) : e_J G X pc L (.ref (G.1 + j) :: st) h :=
  e_j_get C f hj (show va_rf ((e_rf h j k).map (G.1 + ·)) = rv G (hR h j k) by rw [e_rf, hr]; rfl) d K
theorem e_j_gN (C : e_jC G X cc nL own fr lo) {index ci k n j : Nat} {fin : Bool} {F' : Nat → Option α} (f : fF own index ci k 2 fin) (hj : e_nd h j (100 + ci) n) (hm : nn (e_rf h j k) F' = some x_) (d : decode cc pc = .ok (.getfield index, 3)) (K : ∀ r, F' r = some x_ → e_J G X (pc + 3) L (.ref (G.1 + r) :: st) h) : e_J G X pc L (.ref (G.1 + j) :: st) h := by
  obtain ⟨r, e, hm⟩ := nn_inv hm
  exact e_j_get C f hj (show va_rf ((e_rf h j k).map (G.1 + ·)) = .ref (G.1 + r) by rw [e]; rfl) d (K r hm)
/-- the heap behind a write of node j -/
theorem e_hp_set {h' : Hp} {H1 : Heap} {j : Nat} {e : va_E} (hj : j < e_nid h) (hn : hN h' = hN h) (he : e_ce (cAg G) G.1 h' j = e) (ho : ∀ i, i ≠ j → e_ce (cAg G) G.1 h' i = e_ce (cAg G) G.1 h i) (hP : va_P (Dg G) cls ((e_cs (cAg G) G.1 h).set j (G.1 + j, e)) H1) : e_hp G h' H1 := by
  rw [e_cs_set hj hn he ho] at hP
  exact hP
/-- a field is written, of any kind -/
theorem e_j_put (C : e_jC G X cc nL own fr lo) {h' : Hp} {index ci k ty n j : Nat} (f : fF own index ci k ty false) (hj : e_nd h j (100 + ci) n) {v : Value} (hfit : ∀ t, tyOK ty t → narrow t v = v ∧ fits t v = true) (hn : hN h' = hN h) (hs : hS h' = hS h) (hk : e_kd h' j = e_kd h j) (ho : ∀ i, i ≠ j → e_ce (cAg G) G.1 h' i = e_ce (cAg G) G.1 h i) (hq : ∀ q, q ≠ k → ∀ t, e_fv G.1 h' j q t = e_fv G.1 h j q t) (hv : e_fv G.1 h' j k ty = v) (d : decode cc pc = .ok (.putfield index, 3)) (K : e_J G X (pc + 3) L st h') : e_J G X pc L (v :: .ref (G.1 + j) :: st) h := by
  have hg := e_fv_at (h := h) (b := G.1) (j := j) f
  obtain ⟨Cn, T, N, tyf, f1, f2, f3, f4, f5, f6, f7, f8, f9⟩ := f
  refine e_J_mk (by rw [← hn, ← hs]; exact K.1) fun Y y H locs ls a1 a2 a3 a4 a5 => ?_
  refine va_put (C Y y).x (C Y y).b (C Y y).ts f2 tyf f6 f7 (C Y y).ow (C Y y).kn.1 a1 a1.D a2 j (a1.at hj (e_ce_o hj.1)) f1 k f3 ((C Y y).ts _ f4) (fun _ q => q) f9 (f6 k f3) (hfit _ f8).1 (hfit _ f8).2 (by rw [List.getElem?_eq_some_iff] at hg; exact hg.1) d (fun H1 locs1 p1 p2 p3 => ?_)
  have hw : e_ce (cAg G) G.1 h' j = .inr (ci, (e_obF G.1 h j 0 (FT.getD ci [])).set k v) := by
    rw [e_ce_o (hk.trans hj.1), e_obF_set G.1 h h' j (FT.getD ci []) 0 k v (fun q z t => hq q (by omega) t) (fun t ht => by rw [Nat.zero_add, ← hv]; rw [f5] at ht; cases ht; rfl)]
  have := K.2 Y y H1 locs1 ls (e_hp_set hj.2 hn hw ho p1) p3 a3 (by rw [hn]; exact a4) (by rw [hs]; exact a5)
  rw [hn, hs] at this
  exact this
theorem e_fv_sI {b j k : Nat} {v : Int32} (q : Nat) (hq : q ≠ k) (t : Nat) : e_fv b (sI h j k v) j q t = e_fv b h j q t := e_fv_congr (h := h) (h' := sI h j k v) (by rw [hI_sI]; exact if_neg hq) rfl rfl t
theorem e_fv_sL {b j k : Nat} {v : Int64} (q : Nat) (hq : q ≠ k) (t : Nat) : e_fv b (sL h j k v) j q t = e_fv b h j q t := e_fv_congr (h := h) (h' := sL h j k v) rfl (by rw [hL_sL]; exact if_neg hq) rfl t
theorem e_fv_sR {b j k : Nat} {v : Option Nat} (q : Nat) (hq : q ≠ k) (t : Nat) : e_fv b (sR h j k v) j q t = e_fv b h j q t := by
  refine e_fv_congr (h := h) (h' := sR h j k v) rfl rfl ?_ t
  have e : hR (sR h j k v) j q = hR h j q := by rw [hR_sR]; exact if_neg hq
  rw [e_rf, e_rf, e]
theorem e_j_pI (C : e_jC G X cc nL own fr lo) {index ci k n j : Nat} {v : Int32} (f : fF own index ci k 0 false) (hj : e_nd h j (100 + ci) n) (d : decode cc pc = .ok (.putfield index, 3)) (K : e_J G X (pc + 3) L st (sI h j k v)) : e_J G X pc L (.int v :: .ref (G.1 + j) :: st) h :=
  e_j_put (h' := sI h j k v) C f hj (fun t ht => by
    rcases ht with ⟨-, rfl⟩ | ⟨z, -⟩ | ⟨z, -⟩ | ⟨z, -⟩
    · exact ⟨rfl, rfl⟩
    all_goals cases z) rfl rfl rfl (fun i hi => e_ce_sI_ne hi) e_fv_sI (by show Value.int (hI (sI h j k v) j k) = _; rw [hI_sI]; simp [upd]) d K
theorem e_j_pZ (C : e_jC G X cc nL own fr lo) {index ci k n j : Nat} {v : Int32} (f : fF own index ci k 3 false) (hj : e_nd h j (100 + ci) n) (hb : v = 0 ∨ v = 1) (d : decode cc pc = .ok (.putfield index, 3)) (K : e_J G X (pc + 3) L st (sI h j k v)) : e_J G X pc L (.int v :: .ref (G.1 + j) :: st) h :=
  e_j_put (h' := sI h j k v) C f hj (fun t ht => by
    rcases ht with ⟨z, -⟩ | ⟨-, rfl⟩ | ⟨z, -⟩ | ⟨z, -⟩
    · cases z
    · rcases hb with rfl | rfl <;> exact ⟨by decide, by decide⟩
    all_goals cases z) rfl rfl rfl (fun i hi => e_ce_sI_ne hi) e_fv_sI (by show Value.int (hI (sI h j k v) j k) = _; rw [hI_sI]; simp [upd]) d K
theorem e_j_pL (C : e_jC G X cc nL own fr lo) {index ci k n j : Nat} {v : Int64} (f : fF own index ci k 1 false) (hj : e_nd h j (100 + ci) n) (d : decode cc pc = .ok (.putfield index, 3)) (K : e_J G X (pc + 3) L st (sL h j k v)) : e_J G X pc L (.long v :: .ref (G.1 + j) :: st) h :=
  e_j_put (h' := sL h j k v) C f hj (fun t ht => by
    rcases ht with ⟨z, -⟩ | ⟨z, -⟩ | ⟨-, rfl⟩ | ⟨z, -⟩
    · cases z
    · cases z
    · exact ⟨rfl, rfl⟩
    · cases z) rfl rfl rfl (fun i hi => e_ce_sL_ne hi) e_fv_sL (by show Value.long (hL (sL h j k v) j k) = _; rw [hL_sL]; simp [vp_updL]) d K
theorem e_j_pR (C : e_jC G X cc nL own fr lo) {index ci k n j : Nat} {o : Option Nat} (f : fF own index ci k 2 false) (hj : e_nd h j (100 + ci) n) (hr : e_rs j k = none) (d : decode cc pc = .ok (.putfield index, 3)) (K : e_J G X (pc + 3) L st (sR h j k o)) : e_J G X pc L (rv G o :: .ref (G.1 + j) :: st) h :=
  e_j_put (h' := sR h j k o) C f hj (fun t ht => by
    rcases ht with ⟨z, -⟩ | ⟨z, -⟩ | ⟨z, -⟩ | ⟨-, ht⟩
    · cases z
    · cases z
    · cases z
    · rcases ht with ⟨n, rfl⟩ | ⟨q, rfl⟩ <;> cases o <;> exact ⟨rfl, rfl⟩) rfl rfl rfl (fun i hi => e_ce_sR_ne hi) e_fv_sR (by show va_rf ((e_rf (sR h j k o) j k).map (G.1 + ·)) = _; rw [e_rf, hr]; show va_rf ((hR (sR h j k o) j k).map (G.1 + ·)) = _; rw [hR_sR]; simp [va_up, rv]) d K
/-- arrays: reads -/
theorem e_j_iald (C : e_jC G X cc nL own fr lo) {i : Int32} {n j : Nat} (hj : e_nd h j 0 n) (hm : ib i n F = some x_) (d : decode cc pc = .ok (.iaload, 1)) (K : F = some x_ → e_J G X (pc + 1) L (.int (hI h j (ix i)) :: st) h) : e_J G X pc L (.int i :: .ref (G.1 + j) :: st) h := by
  obtain ⟨hi, hm⟩ := ib_inv hm
  exact e_J_mk (K hm).1 fun Y y H locs ls a1 a2 a3 a4 a5 => va_iald (C Y y).x (C Y y).b (C Y y).kn.1 a1 j 0 (a1.at hj (e_ce_i hj.1 (by omega) (by omega))) rfl hi d ((K hm).2 Y y H locs ls a1 a2 a3 a4 a5)
theorem e_j_zald (C : e_jC G X cc nL own fr lo) {i : Int32} {n j : Nat} (hj : e_nd h j 2 n) (hm : ib i n F = some x_) (d : decode cc pc = .ok (.baload, 1)) (K : F = some x_ → e_J G X (pc + 1) L (.int (hI h j (ix i)) :: st) h) : e_J G X pc L (.int i :: .ref (G.1 + j) :: st) h := by
  obtain ⟨hi, hm⟩ := ib_inv hm
  exact e_J_mk (K hm).1 fun Y y H locs ls a1 a2 a3 a4 a5 => va_zald (C Y y).x (C Y y).b (C Y y).kn.1 a1 j 2 (a1.at hj (e_ce_i hj.1 (by omega) (by omega))) rfl hi d ((K hm).2 Y y H locs ls a1 a2 a3 a4 a5)
theorem e_j_bald (C : e_jC G X cc nL own fr lo) {i : Int32} {n j : Nat} (hj : e_nd h j 3 n) (hm : ib i n F = some x_) (d : decode cc pc = .ok (.baload, 1)) (K : F = some x_ → e_J G X (pc + 1) L (.int (hI h j (ix i)) :: st) h) : e_J G X pc L (.int i :: .ref (G.1 + j) :: st) h := by
  obtain ⟨hi, hm⟩ := ib_inv hm
  exact e_J_mk (K hm).1 fun Y y H locs ls a1 a2 a3 a4 a5 => va_bald (C Y y).x (C Y y).b (C Y y).kn.1 a1 j 3 (a1.at hj (e_ce_i hj.1 (by omega) (by omega))) rfl hi d ((K hm).2 Y y H locs ls a1 a2 a3 a4 a5)
theorem e_j_lald (C : e_jC G X cc nL own fr lo) {i : Int32} {n j : Nat} (hj : e_nd h j 1 n) (hm : ib i n F = some x_) (d : decode cc pc = .ok (.laload, 1)) (K : F = some x_ → e_J G X (pc + 1) L (.long (hL h j (ix i)) :: st) h) : e_J G X pc L (.int i :: .ref (G.1 + j) :: st) h := by
  obtain ⟨hi, hm⟩ := ib_inv hm
  exact e_J_mk (K hm).1 fun Y y H locs ls a1 a2 a3 a4 a5 => va_lald (C Y y).x (C Y y).b (C Y y).kn.1 a1 j 1 (a1.at hj (e_ce_l hj.1)) rfl hi d ((K hm).2 Y y H locs ls a1 a2 a3 a4 a5)
/-- a row of references without static entries -/
theorem e_rs_nil {j : Nat} (hr : e_RS.getD j [] = []) (k : Nat) : e_rs j k = none := by rw [e_rs, hr]; rfl
theorem e_rf_nil {h : Hp} {j k : Nat} (hr : e_RS.getD j [] = []) : e_rf h j k = hR h j k := by
  unfold e_rf
  rw [e_rs_nil hr]
theorem e_j_aald (C : e_jC G X cc nL own fr lo) {i : Int32} {t n j p : Nat} {Cn : String} (hj : e_nd h j t n) (h1 : 10 ≤ t) (h2 : t < 100) (ht : (tysg G)[p]? = some (cAg G t, .object Cn)) (hm : ib i n F = some x_) (d : decode cc pc = .ok (.aaload, 1)) (K : F = some x_ → e_J G X (pc + 1) L (rv G (e_rf h j (ix i)) :: st) h) : e_J G X pc L (.int i :: .ref (G.1 + j) :: st) h := by
  obtain ⟨hi, hm⟩ := ib_inv hm
  exact e_J_mk (K hm).1 fun Y y H locs ls a1 a2 a3 a4 a5 => va_aldq (C Y y).x (C Y y).b (C Y y).kn.1 a1 j p (a1.at hj (e_ce_q hj.1 h1 h2)) ht hi d ((K hm).2 Y y H locs ls a1 a2 a3 a4 a5)
/-- a row of references with static entries alone: which one is a branch of the model -/
theorem e_j_alen (C : e_jC G X cc nL own fr lo) {n j : Nat} (v : Int32) (hj : e_nd h j 0 n) (hv : Int32.ofNat n = v) (d : decode cc pc = .ok (.arraylength, 1)) (K : e_J G X (pc + 1) L (.int v :: st) h) : e_J G X pc L (.ref (G.1 + j) :: st) h :=
  e_J_mk K.1 fun Y y H locs ls a1 a2 a3 a4 a5 => va_alen (C Y y).x (C Y y).b (C Y y).kn.1 a1 j 0 (a1.at hj (e_ce_i hj.1 (by omega) (by omega))) rfl hv d (K.2 Y y H locs ls a1 a2 a3 a4 a5)
theorem e_j_alenL (C : e_jC G X cc nL own fr lo) {n j : Nat} (v : Int32) (hj : e_nd h j 1 n) (hv : Int32.ofNat n = v) (d : decode cc pc = .ok (.arraylength, 1)) (K : e_J G X (pc + 1) L (.int v :: st) h) : e_J G X pc L (.ref (G.1 + j) :: st) h :=
  e_J_mk K.1 fun Y y H locs ls a1 a2 a3 a4 a5 => va_alen (C Y y).x (C Y y).b (C Y y).kn.1 a1 j 1 (a1.at hj (e_ce_l hj.1)) rfl hv d (K.2 Y y H locs ls a1 a2 a3 a4 a5)
/-- arrays: writes -/
theorem e_j_iast (C : e_jC G X cc nL own fr lo) {i v : Int32} {n j : Nat} (hj : e_nd h j 0 n) (hm : ib i n F = some x_) (d : decode cc pc = .ok (.iastore, 1)) (K : F = some x_ → e_J G X (pc + 1) L st (sI h j (ix i) v)) : e_J G X pc L (.int v :: .int i :: .ref (G.1 + j) :: st) h := by
  obtain ⟨hi, hm⟩ := ib_inv hm
  refine e_J_mk (K hm).1 fun Y y H locs ls a1 a2 a3 a4 a5 => va_iast (C Y y).x (C Y y).b (C Y y).kn.1 a1 a1.D a2 j 0 (a1.at hj (e_ce_i hj.1 (by omega) (by omega))) rfl hi d (fun H1 locs1 p1 p2 p3 => ?_)
  exact (K hm).2 Y y H1 locs1 ls (e_hp_set (h := h) (h' := sI h j (ix i) v) hj.2 rfl ((e_ce_i ((e_kd_sI j).trans hj.1) (by omega) (by omega)).trans (by rw [hI_sI])) (fun i hi => e_ce_sI_ne hi) p1) p3 a3 a4 a5
theorem e_j_zast (C : e_jC G X cc nL own fr lo) {i v : Int32} {n j : Nat} (hj : e_nd h j 2 n) (hm : ib i n F = some x_) (d : decode cc pc = .ok (.bastore, 1)) (K : F = some x_ → e_J G X (pc + 1) L st (sI h j (ix i) (z_nz v))) : e_J G X pc L (.int v :: .int i :: .ref (G.1 + j) :: st) h := by
  obtain ⟨hi, hm⟩ := ib_inv hm
  refine e_J_mk (K hm).1 fun Y y H locs ls a1 a2 a3 a4 a5 => va_zast (C Y y).x (C Y y).b (C Y y).kn.1 a1 a1.D a2 j 2 (a1.at hj (e_ce_i hj.1 (by omega) (by omega))) rfl hi d (fun H1 locs1 p1 p2 p3 => ?_)
  exact (K hm).2 Y y H1 locs1 ls (e_hp_set (h := h) (h' := sI h j (ix i) (z_nz v)) hj.2 rfl ((e_ce_i ((e_kd_sI j).trans hj.1) (by omega) (by omega)).trans (by rw [hI_sI]; rfl)) (fun i hi => e_ce_sI_ne hi) p1) p3 a3 a4 a5
theorem e_j_bast (C : e_jC G X cc nL own fr lo) {i v : Int32} {n j : Nat} (hj : e_nd h j 3 n) (hm : ib i n F = some x_) (d : decode cc pc = .ok (.bastore, 1)) (K : F = some x_ → e_J G X (pc + 1) L st (sI h j (ix i) (z_nb v))) : e_J G X pc L (.int v :: .int i :: .ref (G.1 + j) :: st) h := by
  obtain ⟨hi, hm⟩ := ib_inv hm
  refine e_J_mk (K hm).1 fun Y y H locs ls a1 a2 a3 a4 a5 => va_bast (C Y y).x (C Y y).b (C Y y).kn.1 a1 a1.D a2 j 3 (a1.at hj (e_ce_i hj.1 (by omega) (by omega))) rfl hi d (fun H1 locs1 p1 p2 p3 => ?_)
  exact (K hm).2 Y y H1 locs1 ls (e_hp_set (h := h) (h' := sI h j (ix i) (z_nb v)) hj.2 rfl ((e_ce_i ((e_kd_sI j).trans hj.1) (by omega) (by omega)).trans (by rw [hI_sI]; rfl)) (fun i hi => e_ce_sI_ne hi) p1) p3 a3 a4 a5
theorem e_j_last (C : e_jC G X cc nL own fr lo) {i : Int32} {v : Int64} {n j : Nat} (hj : e_nd h j 1 n) (hm : ib i n F = some x_) (d : decode cc pc = .ok (.lastore, 1)) (K : F = some x_ → e_J G X (pc + 1) L st (sL h j (ix i) v)) : e_J G X pc L (.long v :: .int i :: .ref (G.1 + j) :: st) h := by
  obtain ⟨hi, hm⟩ := ib_inv hm
  refine e_J_mk (K hm).1 fun Y y H locs ls a1 a2 a3 a4 a5 => va_last (C Y y).x (C Y y).b (C Y y).kn.1 a1 a1.D a2 j 1 (a1.at hj (e_ce_l hj.1)) rfl hi d (fun H1 locs1 p1 p2 p3 => ?_)
  exact (K hm).2 Y y H1 locs1 ls (e_hp_set (h := h) (h' := sL h j (ix i) v) hj.2 rfl ((e_ce_l ((e_kd_sL j).trans hj.1)).trans (by rw [hL_sL])) (fun i hi => e_ce_sL_ne hi) p1) p3 a3 a4 a5
/-- a reference, or null, into the row of laws -/
theorem e_rf_sR0 {j k : Nat} {o : Option Nat} (hr : e_RS.getD j [] = []) (b : Nat) : (fun q => (e_rf (sR h j k o) j q).map (b + ·)) = va_up (fun q => (e_rf h j q).map (b + ·)) k (o.map (b + ·)) := by
  have e1 : (fun q => (e_rf (sR h j k o) j q).map (b + ·)) = fun q => (va_up (hR h j) k o q).map (b + ·) := funext fun q => by rw [e_rf_nil hr, hR_sR]
  have e2 : (fun q => (e_rf h j q).map (b + ·)) = fun q => (hR h j q).map (b + ·) := funext fun q => by rw [e_rf_nil hr]
  rw [e1, e2]
  funext q
  by_cases hq : q = k
  · subst hq; simp [va_up]
  · simp [va_up, hq]
/-- static arrays -/
theorem e_j_gs (C : e_jC G X cc nL own fr lo) {index i : Nat} {q : String × String × List Int32} (hq : ST[i]? = some q) (w : Cond.fieldLink own index q.1 q.2.1 "[I" ∈ lw_g) (d : decode cc pc = .ok (.getstatic index, 3)) (K : e_J G X (pc + 3) L (.ref (sag G i) :: st) h) : e_J G X pc L st h :=
  e_J_mk K.1 fun Y y H locs ls a1 a2 a3 a4 a5 => va_gets (C Y y).x (C Y y).b ((C Y y).st.1 i q hq).1 a2 (C Y y).ow ((C Y y).ts _ w) (fun _ z => z) d (K.2 Y y H locs ls a1 a2 a3 a4 a5)
theorem e_j_gsN (C : e_jC G X cc nL own fr lo) {index i : Nat} {q : String × String × List Int32} {host : String} (hq : ST[i]? = some q) (w : Cond.fieldLinkNest own index q.1 q.2.1 "[I" host ∈ NW) (d : decode cc pc = .ok (.getstatic index, 3)) (K : e_J G X (pc + 3) L (.ref (sag G i) :: st) h) : e_J G X pc L st h :=
  e_J_mk K.1 fun Y y H locs ls a1 a2 a3 a4 a5 => va_getsN (C Y y).x (C Y y).b ((C Y y).st.1 i q hq).1 a2 (C Y y).ow (va_Nw.use rfl ((C Y y).kn.2.1 _ w)) (fun _ z => z) d (K.2 Y y H locs ls a1 a2 a3 a4 a5)
theorem e_j_sald (C : e_jC G X cc nL own fr lo) {i : Int32} {a n : Nat} {q : String × String × List Int32} (hq : ST[a]? = some q) (hn : q.2.2.length = n) (hm : ib i n F = some x_) (d : decode cc pc = .ok (.iaload, 1)) (K : F = some x_ → e_J G X (pc + 1) L (.int (q.2.2.getD (ix i) 0) :: st) h) : e_J G X pc L (.int i :: .ref (sag G a) :: st) h := by
  subst hn
  obtain ⟨hi, hm⟩ := ib_inv hm
  exact e_J_mk (K hm).1 fun Y y H locs ls a1 a2 a3 a4 a5 => va_ti (C Y y).x (C Y y).b ((C Y y).st.1 a q hq).2 a2 hi rfl d ((K hm).2 Y y H locs ls a1 a2 a3 a4 a5)
theorem e_j_slen (C : e_jC G X cc nL own fr lo) {a : Nat} {v : Int32} {q : String × String × List Int32} (hq : ST[a]? = some q) (hv : Int32.ofNat q.2.2.length = v) (d : decode cc pc = .ok (.arraylength, 1)) (K : e_J G X (pc + 1) L (.int v :: st) h) : e_J G X pc L (.ref (sag G a) :: st) h :=
  e_J_mk K.1 fun Y y H locs ls a1 a2 a3 a4 a5 => va_tlen (C Y y).x (C Y y).b ((C Y y).st.1 a q hq).2 a2 hv d (K.2 Y y H locs ls a1 a2 a3 a4 a5)
/-- switches -/
theorem e_j_tableOut (C : e_jC G X cc nL own fr lo) (tgt : Nat) {dflt lo_ hi_ : Int} {offs : Array Int} {len : Nat} {x : Int32} (d : decode cc pc = .ok (.tableswitch dflt lo_ hi_ offs, len)) (hx : x.toInt < lo_ ∨ hi_ < x.toInt) (ht : (pc : Int) + dflt = (tgt : Int)) (K : e_J G X tgt L st h) : e_J G X pc L (.int x :: st) h :=
  e_J_mk K.1 fun Y y H locs ls a1 a2 a3 a4 a5 => lv_tableOut (C Y y).x (C Y y).b d hx ht (K.2 Y y H locs ls a1 a2 a3 a4 a5)
theorem e_j_tableIn (C : e_jC G X cc nL own fr lo) (tgt : Nat) {dflt lo_ hi_ : Int} {offs : Array Int} {len : Nat} {x : Int32} {off : Int} (d : decode cc pc = .ok (.tableswitch dflt lo_ hi_ offs, len)) (h1 : ¬ x.toInt < lo_) (h2 : ¬ hi_ < x.toInt) (ho : offs[(x.toInt - lo_).toNat]? = some off) (ht : (pc : Int) + off = (tgt : Int)) (K : e_J G X tgt L st h) : e_J G X pc L (.int x :: st) h :=
  e_J_mk K.1 fun Y y H locs ls a1 a2 a3 a4 a5 => lv_tableIn (C Y y).x (C Y y).b d h1 h2 ho ht (K.2 Y y H locs ls a1 a2 a3 a4 a5)
theorem e_j_lookup (C : e_jC G X cc nL own fr lo) (tgt : Nat) {dflt : Int} {ps : Array (Int × Int)} {len : Nat} {x : Int32} {off : Int} (d : decode cc pc = .ok (.lookupswitch dflt ps, len)) (e_hp : (ps.toList.zip (ps.toList.drop 1)).all (fun (a, next) => a.1 < next.1) = true) (ho : Op.lookupswitch.offset ps.toList dflt x.toInt = off) (ht : (pc : Int) + off = (tgt : Int)) (K : e_J G X tgt L st h) : e_J G X pc L (.int x :: st) h :=
  e_J_mk K.1 fun Y y H locs ls a1 a2 a3 a4 a5 => lv_lookup (C Y y).x (C Y y).b d e_hp ho ht (K.2 Y y H locs ls a1 a2 a3 a4 a5)
end heap
/-- a method's end, its start, its contract -/
def e_qc (G : jG) (o : Option Value) (h' : Hp) : Array Value → State → Outcome → State → Prop := fun _ st oc t => (oc = .returned o ∧ e_hp G h' t.heap) ∧ va_F (Ab G) st t
def e_px (G : jG) (h : Hp) (U : State) : Prop := U.heap.size = G.1 + e_nid h ∧ e_hp G h U.heap ∧ kn G U ∧ stc G U U.heap ∧ stk G U
def e_mt (G : jG) (l : Launch) (y : MethodName) (bytes : ByteArray) (nL : Nat) (ret : Option FieldType) (fr lo : Nat) (av : List Value) (h : Hp) (o : Option Value) (h' : Hp) : Prop :=
  (hN h ≤ hN h' ∧ hS h ≤ hS h') ∧ Met l y (Cond.code y bytes nL ret :: lw_g) { frames := fr, cells := hN h' - hN h, slots := hS h' - hS h, locals := lo } (va_Pc av (e_px G h)) (e_qc G o h') (hN h' - hN h) (hS h' - hS h) (Ab G)
def e_jO (G : jG) (X : jX) (ret : Option FieldType) (o : Option Value) (h' : Hp) : Prop := X.1.1 = hN h' ∧ X.1.2 = hS h' ∧ ∀ (Y : jY), X.2 = some Y → xkb Y = 0 ∧ xsb Y = 0 ∧ xQ Y = MQ (xb Y) (e_qc G o h') (xa Y) (xs Y) (hN h' - xn0 Y) (hS h' - xs0 Y) (Ab G) ∧ (xM Y).sig.returnType = ret ∧ (xM Y).locks = false
theorem e_px_blind {G : jG} {h : Hp} {av : List Value} : FrameBlind (va_Pc av (e_px G h)) := fun a U g mk q => ⟨q.1, q.2.1, q.2.2.1, kn_same (s := U) (U := U.calling g mk a) rfl q.2.2.2.1, stc_moved (s := U) (U := U.calling g mk a) (Vm.Alike.refl U.vm) q.2.2.2.2.1, stk_same (s := U) (U := U.calling g mk a) rfl q.2.2.2.2.2⟩
theorem e_mt_of {G : jG} {l : Launch} {y : MethodName} {bytes : ByteArray} {nL : Nat} {ret : Option FieldType} {fr lo : Nat} {av : List Value} {h : Hp} {o : Option Value} {h' : Hp} (hy : plainName y.cls = true) (hlen : (lg_sl av).length ≤ nL) (L0 : List (Nat × Value)) (hL : lv_args 0 av = L0)
    (body : ∀ X : jX, (∀ Y, X.2 = some Y → (xM Y).name = y.name) → e_jC G X bytes nL y.cls fr lo → e_jO G X ret o h' → e_J G X 0 L0 [] h) : e_mt G l y bytes nL ret fr lo av h o h' := by
  refine ⟨(body ((hN h', hS h'), none) (fun Y e => by cases e) (fun Y e => by cases e) ⟨rfl, rfl, fun Y e => by cases e⟩).1, ?_⟩
  refine Met.ofW (cc := bytes) (maxL := nL) (ret := ret) hy rfl ?_
  intro p e s m args below meth c s₁ B hml hv
  obtain ⟨rfl, hsz, hP, hK, hst, hsk⟩ := hv
  have hts := atoms_spec (ws := Cond.code y bytes nL ret :: lw_g) B.pre
  have hown : s.vm.findClass y.cls = some m.cls := findClass_of_methodNamed B.named
  have hl := lv_entry av (n := nL) hlen
  rw [lg_entry_eq]
  generalize (lg_sl av ++ List.replicate (nL - (lg_sl av).length) Slot.unset).toArray = ls at hl ⊢
  rw [hL] at hl
  have K := body ((hN h', hS h'), some (p, l, e, { frames := fr, cells := hN h' - hN h, slots := hS h' - hS h, locals := lo }, s, m, av.toArray, below, meth, c, MQ below (e_qc G o h') av.toArray s (hN h' - hN h) (hS h' - hS h) (Ab G), hN h, hS h, 0, 0, nL)) (fun Y e => by cases e; exact (name_of_methodNamed B.named B.method).1)
    (fun Y e => by
      cases e
      exact ⟨B.exec, B.bytes, hml, rfl, hown, fun w hw => hts w (List.mem_cons_of_mem _ hw), hK, hst, hsk, by show G.1 ≤ s.heap.size; rw [hsz]; exact Nat.le_add_right _ _, by show s.heap.size + 0 = G.1 + e_NS + hN h; rw [hsz]; unfold e_nid; omega, by show _ = 0 + _; rw [Nat.zero_add], by show _ = 0 + _; rw [Nat.zero_add], rfl, rfl⟩)
    ⟨rfl, rfl, fun Y e => by cases e; exact ⟨rfl, rfl, rfl, B.returns, B.notSynchronized⟩⟩
  have := K.2 _ rfl s.heap [] ls hP va_S.rf hl (Nat.le_refl _) (Nat.le_refl _)
  simp only [Nat.zero_add, Nat.sub_self] at this
  exact this
section ends
variable {G : jG} {X : jX} {cc : ByteArray} {nL : Nat} {own : String} {fr lo : Nat} {pc : Nat} {L L' : List (Nat × Value)} {st : List Value} {h : Hp} {α : Type} {F : Option α} {x_ : α}
theorem e_j_iret (C : e_jC G X cc nL own fr lo) {v : Int32} (O : e_jO G X (some .int) (some (.int v)) h) (d : decode cc pc = .ok (.ireturn, 1)) : e_J G X pc L [.int v] h := by
  obtain ⟨o1, o2, O⟩ := O
  refine e_J_mk ⟨by rw [o1]; exact Nat.le_refl _, by rw [o2]; exact Nat.le_refl _⟩ fun Y y H locs ls a1 a2 a3 a4 a5 => ?_
  obtain ⟨o3, o4, o5, o6, o7⟩ := O Y y
  rw [o5, o3, o4, Nat.zero_add, Nat.zero_add]
  exact W.iret (C Y y).x (C Y y).b o6 (fun t ht hW => ⟨⟨rfl, by rw [ht]; exact a1⟩, a2.F ht⟩) a2.2.2 d o7
theorem e_j_zret (C : e_jC G X cc nL own fr lo) {v : Int32} (O : e_jO G X (some .boolean) (some (.int v)) h) (hb : v = 0 ∨ v = 1) (d : decode cc pc = .ok (.ireturn, 1)) : e_J G X pc L [.int v] h := by
  obtain ⟨o1, o2, O⟩ := O
  refine e_J_mk ⟨by rw [o1]; exact Nat.le_refl _, by rw [o2]; exact Nat.le_refl _⟩ fun Y y H locs ls a1 a2 a3 a4 a5 => ?_
  obtain ⟨o3, o4, o5, o6, o7⟩ := O Y y
  rw [o5, o3, o4, Nat.zero_add, Nat.zero_add]
  exact W.zret (C Y y).x (C Y y).b o6 (by rcases hb with rfl | rfl <;> decide) (fun t ht hW => ⟨⟨rfl, by rw [ht]; exact a1⟩, a2.F ht⟩) a2.2.2 d o7
theorem e_j_lret (C : e_jC G X cc nL own fr lo) {v : Int64} (O : e_jO G X (some .long) (some (.long v)) h) (d : decode cc pc = .ok (.lreturn, 1)) : e_J G X pc L [.long v] h := by
  obtain ⟨o1, o2, O⟩ := O
  refine e_J_mk ⟨by rw [o1]; exact Nat.le_refl _, by rw [o2]; exact Nat.le_refl _⟩ fun Y y H locs ls a1 a2 a3 a4 a5 => ?_
  obtain ⟨o3, o4, o5, o6, o7⟩ := O Y y
  rw [o5, o3, o4, Nat.zero_add, Nat.zero_add]
  exact W.lret (C Y y).x (C Y y).b o6 (fun t ht hW => ⟨⟨rfl, by rw [ht]; exact a1⟩, a2.F ht⟩) a2.2.2 d o7
theorem e_j_aret (C : e_jC G X cc nL own fr lo) {v : Value} {rt : FieldType} (O : e_jO G X (some rt) (some v) h) (hrt : (∃ n, rt = .object n) ∨ ∃ t, rt = .array t) (hv : v = .null ∨ ∃ a, v = .ref a) (d : decode cc pc = .ok (.areturn, 1)) : e_J G X pc L [v] h := by
  obtain ⟨o1, o2, O⟩ := O
  refine e_J_mk ⟨by rw [o1]; exact Nat.le_refl _, by rw [o2]; exact Nat.le_refl _⟩ fun Y y H locs ls a1 a2 a3 a4 a5 => ?_
  obtain ⟨o3, o4, o5, o6, o7⟩ := O Y y
  rw [o5, o3, o4, Nat.zero_add, Nat.zero_add]
  exact W.aret (C Y y).x (C Y y).b o6 hrt hv (fun t ht hW => ⟨⟨rfl, by rw [ht]; exact a1⟩, a2.F ht⟩) a2.2.2 d o7
theorem e_j_vret (C : e_jC G X cc nL own fr lo) (O : e_jO G X none none h) (d : decode cc pc = .ok (.return_, 1)) : e_J G X pc L [] h := by
  obtain ⟨o1, o2, O⟩ := O
  refine e_J_mk ⟨by rw [o1]; exact Nat.le_refl _, by rw [o2]; exact Nat.le_refl _⟩ fun Y y H locs ls a1 a2 a3 a4 a5 => ?_
  obtain ⟨o3, o4, o5, o6, o7⟩ := O Y y
  rw [o5, o3, o4, Nat.zero_add, Nat.zero_add]
  exact W.vret (C Y y).x (C Y y).b o6 (fun t ht hW => ⟨⟨rfl, by rw [ht]; exact a1⟩, a2.F ht⟩) a2.2.2 d o7
/-- behind a call -/
theorem e_j_back {h' : Hp} {o : Option Value} {rest st' : List Value} {Y : jY} (y : X.2 = some Y) {H : Heap} {locs : List Loc} {ls : Array Slot} {a : Array Value} (a2 : va_S (Ab G) (xs Y).heap H locs) (a3 : lv_has ls (xnL Y) L) (a4 : xn0 Y ≤ hN h) (a5 : xs0 Y ≤ hS h) (hmono : hN h ≤ hN h' ∧ hS h ≤ hS h') (hs : o.toList ++ rest = st')
    (hr : va_Run (xP Y) (xl Y) (xe Y) (xR Y) (xs Y) (xm Y) (xa Y) (xb Y) (xM Y) (xc Y) H locs (xkb Y + (hN h - xn0 Y)) (xsb Y + (hS h - xs0 Y)) (hN h' - hN h) (hS h' - hS h) (F0 (xm Y) pc ls st) rest (e_qc G o h' a) (Ab G))
    (K : e_J G X (pc + 3) L st' h') : W (xP Y) (xl Y) (xe Y) (xR Y) (xs Y) (xm Y) (xa Y) (xb Y) (xM Y) (xc Y) H locs (xkb Y + (hN h - xn0 Y)) (xsb Y + (hS h - xs0 Y)) (xQ Y) (F0 (xm Y) pc ls st) := by
  intro T hT Z
  obtain ⟨v, st₀, t, T', L1, h0, Z', hL, e1, e2, ⟨⟨hv, hP⟩, hz, hk⟩, go⟩ := hr T hT Z
  cases hv
  rw [h0] at hz hk
  obtain ⟨m1, m2⟩ := hmono
  have hW := K.2 Y y T'.heap (locs ++ L1) ls (by rw [e1]; exact hP)
    ⟨Nat.le_trans a2.1 (by rw [e1]; exact hz), fun q h1 h2 => by rw [e1, hk q (Nat.lt_of_lt_of_le h1 a2.1) h2]; exact a2.2.1 q h1 h2, fun q hq => by
      rcases List.mem_append.mp hq with g | g
      · exact a2.2.2 q g
      · exact hL q g⟩ a3 (by omega) (by omega)
  rw [show xkb Y + (hN h - xn0 Y) + (hN h' - hN h) = xkb Y + (hN h' - xn0 Y) by omega, show xsb Y + (hS h - xs0 Y) + (hS h' - hS h) = xsb Y + (hS h' - xs0 Y) by omega] at Z'
  obtain ⟨t2, b1, b2⟩ := hW T' rfl Z'
  rw [← hs] at b1
  exact ⟨t2, go t2 b1, b2⟩
theorem e_j_start {nF sF : Nat} {Y : jY} (C : e_jD G Y nF sF cc nL own fr lo) {H : Heap} {locs : List Loc} (a1 : e_hp G h H) (a2 : va_S (Ab G) (xs Y).heap H locs) (hz : H.size = G.1 + e_nid h) : ∀ U : State, U.heap = H → (xs Y).WarmedH U.vm → e_px G h U := fun U hU hW =>
  ⟨by rw [hU]; exact hz, by rw [hU]; exact a1, kn_moved hW C.kn, by rw [hU]; exact stc_moved hW.alike (stc_kept C.st a2.2.1), stk_moved hW C.sk⟩
theorem e_j_room {Y : jY} {nF sF : Nat} (C : e_jD G Y nF sF cc nL own fr lo) {h' : Hp} (a4 : xn0 Y ≤ hN h) (a5 : xs0 Y ≤ hS h) (hm : hN h ≤ hN h' ∧ hS h ≤ hS h') (hf : hN h' ≤ nF ∧ hS h' ≤ sF) : xkb Y + (hN h - xn0 Y) + (hN h' - hN h) ≤ (xR Y).cells ∧ xsb Y + (hS h - xs0 Y) + (hS h' - hS h) ≤ (xR Y).slots := by
  rw [C.rc, C.rs]
  omega
/-- a call of an own instance method -/
theorem e_j_cV (C : e_jC G X cc nL own fr lo) {β : Type} {e : Option β} {F : β → Option α} {index ci j q n nL' fr' lo' : Nat} {Cn : String} {y' : MethodName} {bytes : ByteArray} {ret : Option FieldType} (c : cV own index ci Cn y' bytes nL' ret n) (As rest : List Value) (o : β → Option Value) (h' : β → Hp) (st' : β → List Value) (hj : e_nd h j (100 + ci) q) (hm : e.bind F = some x_) (hM : ∀ l u, e = some u → e_mt G l y' bytes nL' ret fr' lo' (.ref (G.1 + j) :: As) h (o u) (h' u)) (hst : st = As.reverse ++ .ref (G.1 + j) :: rest) (hw : (rest.map fun v => v.category).sum ≤ 8) (hn : As.length = n) (hfr : fr' + 1 ≤ fr) (hlo : 8 + (nL' + 11) + lo' ≤ lo) (hs : ∀ u, (o u).toList ++ rest = st' u) (d : decode cc pc = .ok (.invokevirtual index, 3)) (K : ∀ u, F u = some x_ → e_J G X (pc + 3) L (st' u) (h' u)) : e_J G X pc L st h := by
  obtain ⟨u, hu, hm⟩ := bind_inv hm
  have K := K u hm
  refine e_J_mk ⟨Nat.le_trans (hM launch0 u hu).1.1 K.1.1, Nat.le_trans (hM launch0 u hu).1.2 K.1.2⟩ fun Y y H locs ls a1 a2 a3 a4 a5 => ?_
  obtain ⟨c1, c2, c3, c4, c5, c6, T, N, c7⟩ := c
  obtain ⟨hmono, hMet⟩ := hM (xl Y) u hu
  refine W.sz (fun hz => ?_)
  refine e_j_back y a2 a3 a4 a5 hmono (hs u) (va_runV (C := Cn) (As := As) (rest := rest) ⟨(C Y y).x, (C Y y).b, (C Y y).ml, (C Y y).ow, (C Y y).ts⟩ hMet (cwV n (C Y y).ts (g_of c1 (g_of c2 (g_of c3 (g_of c4 (g_of c5 g_self))))) rfl rfl rfl c6 ⟨by rw [(C Y y).fr_]; exact hfr, by rw [(C Y y).lo_]; exact hlo⟩) ⟨e_px_blind, va_recv (C Y y).kn.1 a1 c7 (a1.at hj (e_ce_o hj.1)), fun U hU hW => ⟨rfl, e_j_start (C Y y) a1 a2 (e_j_size (C Y y) a1 a2 a4 hz) U hU hW⟩⟩ rfl hn (by rw [a3.1]; exact (C Y y).nl) hst (lv_room hw) d (e_j_room (C Y y) a4 a5 hmono K.1)) K
theorem e_j_cS (C : e_jC G X cc nL own fr lo) {β : Type} {e : Option β} {F : β → Option α} {index n nL' fr' lo' : Nat} {y' : MethodName} {bytes : ByteArray} {ret : Option FieldType} (c : cS own index y' bytes nL' ret n) (As rest : List Value) (o : β → Option Value) (h' : β → Hp) (st' : β → List Value) (hm : e.bind F = some x_) (hM : ∀ l u, e = some u → e_mt G l y' bytes nL' ret fr' lo' As h (o u) (h' u)) (hst : st = As.reverse ++ rest) (hw : (rest.map fun v => v.category).sum ≤ 8) (hn : As.length = n) (hfr : fr' + 1 ≤ fr) (hlo : 8 + (nL' + 11) + lo' ≤ lo) (hs : ∀ u, (o u).toList ++ rest = st' u) (d : decode cc pc = .ok (.invokestatic index, 3)) (K : ∀ u, F u = some x_ → e_J G X (pc + 3) L (st' u) (h' u)) : e_J G X pc L st h := by
  obtain ⟨u, hu, hm⟩ := bind_inv hm
  have K := K u hm
  refine e_J_mk ⟨Nat.le_trans (hM launch0 u hu).1.1 K.1.1, Nat.le_trans (hM launch0 u hu).1.2 K.1.2⟩ fun Y y H locs ls a1 a2 a3 a4 a5 => ?_
  obtain ⟨c1, c2, c3, c4, c5⟩ := c
  obtain ⟨hmono, hMet⟩ := hM (xl Y) u hu
  refine W.sz (fun hz => ?_)
  refine e_j_back y a2 a3 a4 a5 hmono (hs u) (va_runS (As := As) (rest := rest) ⟨(C Y y).x, (C Y y).b, (C Y y).ml, (C Y y).ow, (C Y y).ts⟩ hMet (va_cwS n (C Y y).ts (g_of c1 (g_of c2 (g_of c3 (g_of c4 g_self)))) rfl rfl rfl c5 ⟨by rw [(C Y y).fr_]; exact hfr, by rw [(C Y y).lo_]; exact hlo⟩) ⟨e_px_blind, fun U hU hW => ⟨rfl, e_j_start (C Y y) a1 a2 (e_j_size (C Y y) a1 a2 a4 hz) U hU hW⟩⟩ rfl hn (by rw [a3.1]; exact (C Y y).nl) hst (lv_room hw) d (e_j_room (C Y y) a4 a5 hmono K.1)) K
theorem e_j_cN (C : e_jC G X cc nL own fr lo) {β : Type} {e : Option β} {F : β → Option α} {index n nL' fr' lo' : Nat} {host : String} {y' : MethodName} {bytes : ByteArray} {ret : Option FieldType} (c : cN own index host y' bytes nL' ret n) (As rest : List Value) (o : β → Option Value) (h' : β → Hp) (st' : β → List Value) (hm : e.bind F = some x_) (hM : ∀ l u, e = some u → e_mt G l y' bytes nL' ret fr' lo' As h (o u) (h' u)) (hst : st = As.reverse ++ rest) (hw : (rest.map fun v => v.category).sum ≤ 8) (hn : As.length = n) (hfr : fr' + 1 ≤ fr) (hlo : 8 + (nL' + 11) + lo' ≤ lo) (hs : ∀ u, (o u).toList ++ rest = st' u) (d : decode cc pc = .ok (.invokestatic index, 3)) (K : ∀ u, F u = some x_ → e_J G X (pc + 3) L (st' u) (h' u)) : e_J G X pc L st h := by
  obtain ⟨u, hu, hm⟩ := bind_inv hm
  have K := K u hm
  refine e_J_mk ⟨Nat.le_trans (hM launch0 u hu).1.1 K.1.1, Nat.le_trans (hM launch0 u hu).1.2 K.1.2⟩ fun Y y H locs ls a1 a2 a3 a4 a5 => ?_
  obtain ⟨c1, c2, c3, c4, c5⟩ := c
  obtain ⟨hmono, hMet⟩ := hM (xl Y) u hu
  refine W.sz (fun hz => ?_)
  refine e_j_back y a2 a3 a4 a5 hmono (hs u) (va_runSN (As := As) (rest := rest) ⟨(C Y y).x, (C Y y).b, (C Y y).ml, (C Y y).ow, (C Y y).ts⟩ hMet ⟨va_cnB n (C Y y).ts (g_of c4 g_self) rfl rfl rfl ((C Y y).kn.2.1 _ c1) ((C Y y).ts _ c3) c5 ⟨by rw [(C Y y).fr_]; exact hfr, by rw [(C Y y).lo_]; exact hlo⟩, (C Y y).ts _ c2, trivial⟩ ⟨e_px_blind, fun U hU hW => ⟨rfl, e_j_start (C Y y) a1 a2 (e_j_size (C Y y) a1 a2 a4 hz) U hU hW⟩⟩ rfl hn (by rw [a3.1]; exact (C Y y).nl) hst (lv_room hw) d (e_j_room (C Y y) a4 a5 hmono K.1)) K
end ends
section more
variable {G : jG} {X : jX} {cc : ByteArray} {nL : Nat} {own : String} {fr lo : Nat} {pc : Nat} {L L' : List (Nat × Value)} {st : List Value} {h : Hp} {α : Type} {F : Option α} {x_ : α}
theorem e_hp_push {H H1 : Heap} {t n : Nat} (a1 : e_hp G h H) (o1 : ∀ q, q < G.1 + e_nid h → H1[q]? = H[q]?) (e : va_at (Dg G) cls (G.1 + e_nid h, e_ce (cAg G) G.1 (e_al h t n) (e_nid h)) H1) : e_hp G (e_al h t n) H1 := by
  intro k q hk
  obtain ⟨hlt, rfl⟩ := e_cs_at hk
  by_cases hk2 : k < e_nid h
  · rw [e_ce_al_lt hk2]
    exact (a1 k _ (e_cs_get hk2)).kept (o1 _ (by show G.1 + k < _; omega))
  · have : k = e_nid h := by
      have : e_nid (e_al h t n) = e_nid h + 1 := rfl
      omega
    subst this
    exact e
theorem e_j_newaI (C : e_jC G X cc nL own fr lo) {v : Int32} (hm : nl v F = some x_) (w : Cond.arrayClass .int ∈ lw_g) (d : decode cc pc = .ok (.newarray .int, 2)) (K : F = some x_ → e_J G X (pc + 2) L (.ref (G.1 + e_nid h) :: st) (e_al h 0 (ix v))) : e_J G X pc L (.int v :: st) h := by
  obtain ⟨⟨v1, v2⟩, hm⟩ := nl_inv hm
  have K := K hm
  have e1 : hN (e_al h 0 (ix v)) = hN h + 1 := rfl
  have e2 : hS (e_al h 0 (ix v)) = hS h + ix v := rfl
  have k1 := K.1
  rw [e1, e2] at k1
  refine e_J_mk ⟨by omega, by omega⟩ fun Y y H locs ls a1 a2 a3 a4 a5 => W.sz fun hz => ?_
  have hH := e_j_size (C Y y) a1 a2 a4 hz
  refine va_newaK (atype := .int) (C Y y).x (C Y y).b ((C Y y).ts _ w) rfl d rfl v1 rfl (by show _ * 4 ≤ _; omega) (by rw [(C Y y).rc]; omega) (by rw [(C Y y).rs]; show _ + ix v ≤ _; omega) hH (fun H1 cA g1 z1 o1 hAr hNm => ?_)
  have hc : cA = cAg G 0 := kn_arr (C Y y).kn (p := 0) rfl (fun C => by intro z; cases z) hNm
  subst hc
  have hW := K.2 Y y H1 locs ls (e_hp_push a1 o1 (by
    rw [e_ce_i (t := 0) e_kd_al (by omega) (by omega)]
    show H1[G.1 + e_nid h]? = some (vp_cell _ _)
    rw [g1, vp_cell_i]
    have : hI (e_al h 0 (ix v)) (e_nid h) = fun _ => 0 := if_pos rfl
    rw [this]
    rfl)) ⟨Nat.le_trans a2.1 (by omega), fun q q1 q2 => (o1 q (by rw [← hH]; exact Nat.lt_of_lt_of_le q1 a2.1)).trans (a2.2.1 q q1 q2), a2.2.2⟩ a3 (by omega) (by omega)
  rw [e1, e2, show xkb Y + (hN h + 1 - xn0 Y) = xkb Y + (hN h - xn0 Y) + 1 by omega, show xsb Y + (hS h + ix v - xs0 Y) = xsb Y + (hS h - xs0 Y) + ix v by omega] at hW
  exact hW
theorem e_obF_null {b : Nat} {h : Hp} {j : Nat} (hr : ∀ k, e_rf h j k = none) : ∀ (N k : Nat), e_obF b h j k (List.replicate N 2) = List.replicate N .null
  | 0, _ => rfl
  | N + 1, k => by
    rw [List.replicate_succ, List.replicate_succ, e_obF, e_obF_null hr N (k + 1)]
    have : e_fv b h j k 2 = .null := by
      show va_rf ((e_rf h j k).map (b + ·)) = .null
      rw [hr k]
      rfl
    rw [this]
/-- Object's own constructor -/
theorem e_j_obj (C : e_jC G X cc nL own fr lo) {index a : Nat} (w1 : Cond.methodLink own index Lib.objectInit ∈ lw_g) (w2 : Cond.instanceMethod Lib.objectInit ∈ lw_g) (w3 : Cond.code Lib.objectInit ⟨#[0xb1]⟩ 1 none ∈ lw_g) (hf : 1 ≤ fr) (hl : (st.map fun v => v.category).sum + 12 ≤ lo) (d : decode cc pc = .ok (.invokespecial index, 3)) (K : e_J G X (pc + 3) L st h) : e_J G X pc L (.ref a :: st) h :=
  e_J_mk K.1 fun Y y H locs ls a1 a2 a3 a4 a5 => W.objInit (C Y y).x (C Y y).b (C Y y).ow ((C Y y).ts _ w1) ((C Y y).ts _ w2) ((C Y y).ts _ w3) rfl (by show ls.size = _; rw [a3.1, (C Y y).nl, (C Y y).ml]) rfl d (by rw [(C Y y).fr_]; exact hf) (by rw [(C Y y).lo_]; show 2 * 0 + _ + 12 ≤ lo; omega) (K.2 Y y H locs ls a1 a2 a3 a4 a5)
/-- a final reference field, in its own constructor -/
theorem e_j_pF (C : e_jC G X cc nL own fr lo) (hi : ∀ Y, X.2 = some Y → (xM Y).name = "<init>") {index ci k n j : Nat} {o : Option Nat} (f : fF own index ci k 2 true) (hd : ∃ Cn T N, cls[ci]? = some (Cn, T, N) ∧ (T k).1 = own) (hj : e_nd h j (100 + ci) n) (hr : e_rs j k = none) (d : decode cc pc = .ok (.putfield index, 3)) (K : e_J G X (pc + 3) L st (sR h j k o)) : e_J G X pc L (rv G o :: .ref (G.1 + j) :: st) h := by
  have hg := e_fv_at (h := h) (b := G.1) (j := j) f
  obtain ⟨Cn, T, N, tyf, f1, f2, f3, f4, f5, f6, f7, f8, f9⟩ := f
  have hfit : narrow (tyf k) (rv G o) = rv G o ∧ fits (tyf k) (rv G o) = true := by
    rcases f8 with ⟨z, -⟩ | ⟨z, -⟩ | ⟨z, -⟩ | ⟨-, ht⟩
    · cases z
    · cases z
    · cases z
    · rcases ht with ⟨n, ht⟩ | ⟨q, ht⟩ <;> rw [ht] <;> cases o <;> exact ⟨rfl, rfl⟩
  have hdecl : (T k).1 = own := by
    obtain ⟨Cn', T', N', g1, g2⟩ := hd
    rw [f1] at g1
    cases g1
    exact g2
  refine e_J_mk K.1 fun Y y H locs ls a1 a2 a3 a4 a5 => ?_
  refine va_putF (C Y y).x (C Y y).b (C Y y).ts f2 tyf f6 f7 (C Y y).ow (C Y y).kn.1 a1 a1.D a2 j (a1.at hj (e_ce_o hj.1)) f1 k f3 ((C Y y).ts _ f4) (fun _ q => q) f9 (hi Y y) hdecl (f6 k f3) hfit.1 hfit.2 (by rw [List.getElem?_eq_some_iff] at hg; exact hg.1) d (fun H1 locs1 p1 p2 p3 => ?_)
  have hw : e_ce (cAg G) G.1 (sR h j k o) j = .inr (ci, (e_obF G.1 h j 0 (FT.getD ci [])).set k (rv G o)) := by
    rw [e_ce_o ((e_kd_sR j).trans hj.1), e_obF_set G.1 h (sR h j k o) j (FT.getD ci []) 0 k (rv G o) (fun q z t => e_fv_sR q (by omega) t) (fun t ht => by
      rw [f5] at ht
      cases ht
      rw [Nat.zero_add]
      show va_rf ((e_rf (sR h j k o) j k).map (G.1 + ·)) = rv G o
      unfold e_rf
      rw [hr]
      show va_rf ((hR (sR h j k o) j k).map (G.1 + ·)) = rv G o
      rw [hR_sR]
      simp [va_up, rv])]
  exact K.2 Y y H1 locs1 ls (e_hp_set (h := h) (h' := sR h j k o) hj.2 rfl hw (fun i hi => e_ce_sR_ne hi) p1) p3 a3 a4 a5
theorem e_j_cI (C : e_jC G X cc nL own fr lo) {β : Type} {e : Option β} {F : β → Option α} {index b n nL' fr' lo' : Nat} {y' : MethodName} {bytes : ByteArray} (c : cI own index y' bytes nL' n) (As rest : List Value) (h' : β → Hp) (hm : e.bind F = some x_) (hM : ∀ l u, e = some u → e_mt G l y' bytes nL' none fr' lo' (.ref b :: As) h none (h' u)) (hst : st = As.reverse ++ .ref b :: rest) (hw : (rest.map fun v => v.category).sum ≤ 8) (hn : As.length = n) (hfr : fr' + 1 ≤ fr) (hlo : 8 + (nL' + 11) + lo' ≤ lo) (d : decode cc pc = .ok (.invokespecial index, 3)) (K : ∀ u, F u = some x_ → e_J G X (pc + 3) L rest (h' u)) : e_J G X pc L st h := by
  obtain ⟨u, hu, hm⟩ := bind_inv hm
  have K := K u hm
  refine e_J_mk ⟨Nat.le_trans (hM launch0 u hu).1.1 K.1.1, Nat.le_trans (hM launch0 u hu).1.2 K.1.2⟩ fun Y y H locs ls a1 a2 a3 a4 a5 => ?_
  obtain ⟨c1, c2, c3, c4, c5, c6⟩ := c
  obtain ⟨hmono, hMet⟩ := hM (xl Y) u hu
  refine W.sz (fun hz => ?_)
  refine e_j_back (st' := rest) y a2 a3 a4 a5 hmono rfl (va_runI (As := As) (rest := rest) ⟨(C Y y).x, (C Y y).b, (C Y y).ml, (C Y y).ow, (C Y y).ts⟩ hMet (cwI n (C Y y).ts (g_of c4 g_self) rfl rfl rfl ((C Y y).ts _ c3) ((C Y y).ts _ c1) ((C Y y).ts _ c2) c5 c6 ⟨by rw [(C Y y).fr_]; exact hfr, by rw [(C Y y).lo_]; exact hlo⟩) ⟨e_px_blind, fun U hU hW => ⟨rfl, e_j_start (C Y y) a1 a2 (e_j_size (C Y y) a1 a2 a4 hz) U hU hW⟩⟩ rfl hn (by rw [a3.1]; exact (C Y y).nl) hst (lv_room hw) d (e_j_room (C Y y) a4 a5 hmono K.1)) K
/-- Math -/
theorem e_j_le {Y : jY} {nF sF : Nat} (C : e_jD G Y nF sF cc nL own fr lo) (a4 : xn0 Y ≤ hN h) (a5 : xs0 Y ≤ hS h) (hf : hN h ≤ nF ∧ hS h ≤ sF) : xkb Y + (hN h - xn0 Y) ≤ (xR Y).cells ∧ xsb Y + (hS h - xs0 Y) ≤ (xR Y).slots := by
  rw [C.rc, C.rs]
  omega
theorem e_j_mmax (C : e_jC G X cc nL own fr lo) {index : Nat} {x y : Int32} (w : Cond.methodLink own index Lib.Math.max.name ∈ lw_g) (w1 : Cond.static Lib.Math.max.name ∈ lw_g) (w2 : Cond.initialized "java/lang/Math" ∈ lw_g) (w3 : Cond.code Lib.Math.max.name Lib.Math.max.code 2 (some .int) ∈ lw_g) (hf : 1 ≤ fr) (hl : (st.map fun v => v.category).sum + 13 ≤ lo) (d : decode cc pc = .ok (.invokestatic index, 3)) (K : e_J G X (pc + 3) L (.int (z_max x y) :: st) h) : e_J G X pc L (.int y :: .int x :: st) h :=
  e_J_mk K.1 fun Y y_ H locs ls a1 a2 a3 a4 a5 => va_mmax (C Y y_).x (C Y y_).b (by rw [a3.1, (C Y y_).nl, (C Y y_).ml]) (C Y y_).ow ((C Y y_).ts _ w) ((C Y y_).ts _ w1) ((C Y y_).ts _ w2) ((C Y y_).ts _ w3) (by rw [(C Y y_).fr_]; exact hf) (by rw [(C Y y_).lo_]; exact hl) (e_j_le (C Y y_) a4 a5 K.1).1 (e_j_le (C Y y_) a4 a5 K.1).2 d (K.2 Y y_ H locs ls a1 a2 a3 a4 a5)
theorem e_j_mmin (C : e_jC G X cc nL own fr lo) {index : Nat} {x y : Int32} (w : Cond.methodLink own index Lib.Math.min.name ∈ lw_g) (w1 : Cond.static Lib.Math.min.name ∈ lw_g) (w2 : Cond.initialized "java/lang/Math" ∈ lw_g) (w3 : Cond.code Lib.Math.min.name Lib.Math.min.code 2 (some .int) ∈ lw_g) (hf : 1 ≤ fr) (hl : (st.map fun v => v.category).sum + 13 ≤ lo) (d : decode cc pc = .ok (.invokestatic index, 3)) (K : e_J G X (pc + 3) L (.int (z_min x y) :: st) h) : e_J G X pc L (.int y :: .int x :: st) h :=
  e_J_mk K.1 fun Y y_ H locs ls a1 a2 a3 a4 a5 => va_mmin (C Y y_).x (C Y y_).b (by rw [a3.1, (C Y y_).nl, (C Y y_).ml]) (C Y y_).ow ((C Y y_).ts _ w) ((C Y y_).ts _ w1) ((C Y y_).ts _ w2) ((C Y y_).ts _ w3) (by rw [(C Y y_).fr_]; exact hf) (by rw [(C Y y_).lo_]; exact hl) (e_j_le (C Y y_) a4 a5 K.1).1 (e_j_le (C Y y_) a4 a5 K.1).2 d (K.2 Y y_ H locs ls a1 a2 a3 a4 a5)
theorem e_j_mabs (C : e_jC G X cc nL own fr lo) {index : Nat} {x : Int32} (w : Cond.methodLink own index Lib.Math.abs.name ∈ lw_g) (w1 : Cond.static Lib.Math.abs.name ∈ lw_g) (w2 : Cond.initialized "java/lang/Math" ∈ lw_g) (w3 : Cond.code Lib.Math.abs.name Lib.Math.abs.code 1 (some .int) ∈ lw_g) (hf : 1 ≤ fr) (hl : (st.map fun v => v.category).sum + 13 ≤ lo) (d : decode cc pc = .ok (.invokestatic index, 3)) (K : e_J G X (pc + 3) L (.int (z_abs x) :: st) h) : e_J G X pc L (.int x :: st) h :=
  e_J_mk K.1 fun Y y_ H locs ls a1 a2 a3 a4 a5 => va_mabs (C Y y_).x (C Y y_).b (by rw [a3.1, (C Y y_).nl, (C Y y_).ml]) (C Y y_).ow ((C Y y_).ts _ w) ((C Y y_).ts _ w1) ((C Y y_).ts _ w2) ((C Y y_).ts _ w3) (by rw [(C Y y_).fr_]; exact hf) (by rw [(C Y y_).lo_]; exact hl) (e_j_le (C Y y_) a4 a5 K.1).1 (e_j_le (C Y y_) a4 a5 K.1).2 d (K.2 Y y_ H locs ls a1 a2 a3 a4 a5)
/-- System.arraycopy of ints -/
theorem e_j_copy (C : e_jC G X cc nL own fr lo) {index a b : Nat} {sp dp n : Int32} (w : Cond.methodLink own index arraycopyName ∈ lw_g) (w1 : Cond.native arraycopyName ∈ lw_g) (w2 : Cond.static arraycopyName ∈ lw_g) (w3 : Cond.initialized "java/lang/System" ∈ lw_g) (hf : 1 ≤ fr) (hl : (st.map fun v => v.category).sum + (nativeFrameWords "java/lang/System" "arraycopy" 5 + 11) ≤ lo) (hm : e_cy h a sp b dp n F = some x_) (d : decode cc pc = .ok (.invokestatic index, 3)) (K : F = some x_ → e_J G X (pc + 3) L st (cpI h a sp b dp n)) : e_J G X pc L (.int n :: .int dp :: .ref (G.1 + b) :: .int sp :: .ref (G.1 + a) :: st) h := by
  obtain ⟨⟨ha, hb, c1, c2, c3, c4, c5⟩, hm⟩ := e_cy_inv hm
  have K := K hm
  refine e_J_mk K.1 fun Y y H locs ls a1 a2 a3 a4 a5 => va_copyi (ty := .int) (C Y y).x (C Y y).b (by rw [a3.1, (C Y y).nl, (C Y y).ml]) (C Y y).ow ((C Y y).ts _ w) ((C Y y).ts _ w1) ((C Y y).ts _ w2) ((C Y y).ts _ w3) (C Y y).kn.1 a1 a1.D a2 a b 0 0 (a1.at ha (e_ce_i ha.1 (by omega) (by omega))) (a1.at hb (e_ce_i hb.1 (by omega) (by omega))) rfl rfl rfl c1 c2 c3 c4 c5 (fun i _ => rfl) (by rw [(C Y y).fr_]; exact hf) (by rw [(C Y y).lo_]; exact hl) d (fun H1 locs1 p1 p2 p3 => ?_)
  exact K.2 Y y H1 locs1 ls (e_hp_set (h := h) (h' := cpI h a sp b dp n) hb.2 rfl ((e_ce_i ((e_kd_cpI b).trans hb.1) (by omega) (by omega)).trans (by rw [show hI (cpI h a sp b dp n) b = _ from if_pos rfl])) (fun i hi => e_ce_cpI_ne hi) p1) p3 a3 a4 a5
end more
section more2
variable {G : jG} {X : jX} {cc : ByteArray} {nL : Nat} {own : String} {fr lo : Nat} {pc : Nat} {L L' : List (Nat × Value)} {st : List Value} {h : Hp} {α : Type} {F : Option α} {x_ : α}
theorem e_j_ldc_w (C : e_jC G X cc nL own fr lo) {index : Nat} {v : Int32} (w : Jvm.Cond.constant own index v ∈ lw_g) (d : decode cc pc = .ok (.ldc_w index, 3)) (K : e_J G X (pc + 3) L (.int v :: st) h) : e_J G X pc L st h := e_J_mk K.1 fun Y y H locs ls a1 a2 a3 a4 a5 => lv_ldcw (C Y y).x (C Y y).b (C Y y).ow ((C Y y).ts _ w) d (K.2 Y y H locs ls a1 a2 a3 a4 a5)
theorem e_j_aloadQ_n (C : e_jC G X cc nL own fr lo) (n : Nat) {k : Fin 4} {i : Nat} {o : Option Nat} (d : decode cc pc = .ok (.aload_n k, 1)) (hi : (k : Nat) = i) (hl : L[n]? = some (i, rv G o)) (K : e_J G X (pc + 1) L (rv G o :: st) h) : e_J G X pc L st h := by
  refine e_J_mk K.1 fun Y y H locs ls a1 a2 a3 a4 a5 => ?_
  cases o with
  | none => exact lv_aload_nN (C Y y).x (C Y y).b d hi (lv_at a3 n hl) (K.2 Y y H locs ls a1 a2 a3 a4 a5)
  | some r => exact lv_aload_n (C Y y).x (C Y y).b d hi (lv_at a3 n hl) (K.2 Y y H locs ls a1 a2 a3 a4 a5)
theorem e_j_aloadQ (C : e_jC G X cc nL own fr lo) (n : Nat) {i : Nat} {o : Option Nat} (d : decode cc pc = .ok (.aload i, 2)) (hl : L[n]? = some (i, rv G o)) (K : e_J G X (pc + 2) L (rv G o :: st) h) : e_J G X pc L st h := by
  refine e_J_mk K.1 fun Y y H locs ls a1 a2 a3 a4 a5 => ?_
  cases o with
  | none => exact lv_aloadN (C Y y).x (C Y y).b d (lv_at a3 n hl) (K.2 Y y H locs ls a1 a2 a3 a4 a5)
  | some r => exact lv_aload (C Y y).x (C Y y).b d (lv_at a3 n hl) (K.2 Y y H locs ls a1 a2 a3 a4 a5)
theorem e_j_astoreQ_n (C : e_jC G X cc nL own fr lo) (L' : List (Nat × Value)) {k : Fin 4} {i : Nat} {o : Option Nat} (d : decode cc pc = .ok (.astore_n k, 1)) (hi : (k : Nat) = i) (hn : i < nL) (hl : (i, rv G o) :: L.filter (fun q => !(q.1 == i) && !(q.1 + 1 == i && q.2.category == 2)) = L') (K : e_J G X (pc + 1) L' st h) : e_J G X pc L (rv G o :: st) h := by
  refine e_J_mk K.1 fun Y y H locs ls a1 a2 a3 a4 a5 => ?_
  cases o with
  | none => exact lv_astore_nN (C Y y).x (C Y y).b d hi a3 (by rw [(C Y y).nl]; exact hn) hl (fun ls a3 => K.2 Y y H locs ls a1 a2 a3 a4 a5)
  | some r => exact lv_astore_n (C Y y).x (C Y y).b d hi a3 (by rw [(C Y y).nl]; exact hn) hl (fun ls a3 => K.2 Y y H locs ls a1 a2 a3 a4 a5)
theorem e_j_astoreQ (C : e_jC G X cc nL own fr lo) (L' : List (Nat × Value)) {i : Nat} {o : Option Nat} (d : decode cc pc = .ok (.astore i, 2)) (hn : i < nL) (hl : (i, rv G o) :: L.filter (fun q => !(q.1 == i) && !(q.1 + 1 == i && q.2.category == 2)) = L') (K : e_J G X (pc + 2) L' st h) : e_J G X pc L (rv G o :: st) h := by
  refine e_J_mk K.1 fun Y y H locs ls a1 a2 a3 a4 a5 => ?_
  cases o with
  | none => exact lv_astoreN (C Y y).x (C Y y).b d a3 (by rw [(C Y y).nl]; exact hn) hl (fun ls a3 => K.2 Y y H locs ls a1 a2 a3 a4 a5)
  | some r => exact lv_astore (C Y y).x (C Y y).b d a3 (by rw [(C Y y).nl]; exact hn) hl (fun ls a3 => K.2 Y y H locs ls a1 a2 a3 a4 a5)
theorem e_j_swIn (C : e_jC G X cc nL own fr lo) (k : Int32) (tgt : Nat) {dflt lo_ hi_ : Int} {offs : Array Int} {len : Nat} {x : Int32} {off : Int} (d : decode cc pc = .ok (.tableswitch dflt lo_ hi_ offs, len)) (e : x = k) (h1 : ¬ k.toInt < lo_) (h2 : ¬ hi_ < k.toInt) (ho : offs[(k.toInt - lo_).toNat]? = some off) (ht : (pc : Int) + off = (tgt : Int)) (K : e_J G X tgt L st h) : e_J G X pc L (.int x :: st) h := by
  subst e
  exact e_j_tableIn C tgt d h1 h2 ho ht K
theorem e_j_lkIn (C : e_jC G X cc nL own fr lo) (k : Int32) (tgt : Nat) {dflt : Int} {ps : Array (Int × Int)} {len : Nat} {x : Int32} {off : Int} (d : decode cc pc = .ok (.lookupswitch dflt ps, len)) (e : x = k) (e_hp : (ps.toList.zip (ps.toList.drop 1)).all (fun (a, next) => a.1 < next.1) = true) (ho : Op.lookupswitch.offset ps.toList dflt k.toInt = off) (ht : (pc : Int) + off = (tgt : Int)) (K : e_J G X tgt L st h) : e_J G X pc L (.int x :: st) h := by
  subst e
  exact e_j_lookup C tgt d e_hp ho ht K
/-- a row of ints, cloned -/
def e_clI (h : Hp) (j : Nat) : Hp := (fun a => if a = e_nid h then hI h j else hI h a, (e_al h 0 (e_ln h j)).2)
theorem e_kd_clI {j i : Nat} : e_kd (e_clI h j) i = e_kd (e_al h 0 (e_ln h j)) i := rfl
theorem e_ce_clI_lt {cA : Nat → ClassId} {b i j : Nat} (hi : i < e_nid h) : e_ce cA b (e_clI h j) i = e_ce cA b h i :=
  e_ce_congr (e_kd_al_lt hi) (if_neg (e_nid_lt hi)) (if_neg (e_nid_lt hi)) (e_rf_congr (if_neg (e_nid_lt hi)))
theorem e_j_clone (C : e_jC G X cc nL own fr lo) {index j n : Nat} (hj : e_nd h j 0 n) (w1 : Cond.methodLink own index ⟨"[I", "clone", "()Ljava/lang/Object;"⟩ ∈ lw_g) (w2 : Cond.sameMethod "[I" "java/lang/Object" "clone" "()Ljava/lang/Object;" ∈ lw_g) (w3 : Cond.native ⟨"java/lang/Object", "clone", "()Ljava/lang/Object;"⟩ ∈ lw_g) (w4 : Cond.instanceMethod ⟨"java/lang/Object", "clone", "()Ljava/lang/Object;"⟩ ∈ lw_g) (w5 : Cond.selects "[I" ⟨"[I", "clone", "()Ljava/lang/Object;"⟩ ⟨"java/lang/Object", "clone", "()Ljava/lang/Object;"⟩ ∈ lw_g) (w6 : Cond.castable "[I" "java/lang/Cloneable" ∈ NW) (hf : 1 ≤ fr) (hl : (st.map fun v => v.category).sum + 14 ≤ lo) (d : decode cc pc = .ok (.invokevirtual index, 3)) (K : e_J G X (pc + 3) L (.ref (G.1 + e_nid h) :: st) (e_clI h j)) : e_J G X pc L (.ref (G.1 + j) :: st) h := by
  have hn : e_ln h j = n := by rw [e_ln, hj.1]
  have e1 : hN (e_clI h j) = hN h + 1 := rfl
  have e2 : hS (e_clI h j) = hS h + n := by rw [← hn]; rfl
  have k1 := K.1
  rw [e1, e2] at k1
  refine e_J_mk ⟨by omega, by omega⟩ fun Y y H locs ls a1 a2 a3 a4 a5 => ?_
  refine va_clone (C Y y).x (C Y y).b (by rw [a3.1, (C Y y).nl, (C Y y).ml]) (C Y y).ow ((C Y y).ts _ w1) ((C Y y).ts _ w2) ((C Y y).ts _ w3) ((C Y y).ts _ w4) ((C Y y).ts _ w5) ((C Y y).kn.2.1 _ w6) (C Y y).kn.1 a1 a1.D a2 (fun q hq => Nat.le_trans (C Y y).bs hq) j 0 (a1.at hj (e_ce_i hj.1 (by omega) (by omega))) rfl (kn_int (C Y y).kn) fit_int (by rw [(C Y y).fr_]; exact hf) (by rw [(C Y y).lo_]; exact hl) (by rw [(C Y y).rc]; omega) (by rw [(C Y y).rs]; show _ + n ≤ _; omega) d (fun q H1 _ p1 d1 s1 => W.sz fun hz => ?_)
  have hsz := (C Y y).sz
  have hlast : (e_cs (cAg G) G.1 h ++ [(q, Sum.inl (cAg G 0, n, Sum.inl (hI h j)))])[e_nid h]? = some (q, Sum.inl (cAg G 0, n, Sum.inl (hI h j))) := by
    rw [List.getElem?_append_right (by rw [e_cs_len]; exact Nat.le_refl _), e_cs_len, Nat.sub_self]
    rfl
  have hlt : q < H1.size := va_at.lt (p1 _ _ hlast)
  have hge : G.1 ≤ q := d1.2 _ _ hlast
  have hq : q = G.1 + e_nid h := by
    by_cases hb : q < G.1 + e_nid h
    · exfalso
      have hx : q - G.1 < e_nid h := by omega
      have hfirst : (e_cs (cAg G) G.1 h ++ [(q, Sum.inl (cAg G 0, n, Sum.inl (hI h j)))])[q - G.1]? = some (G.1 + (q - G.1), e_ce (cAg G) G.1 h (q - G.1)) := by
        rw [List.getElem?_append_left (by rw [e_cs_len]; exact hx), e_cs_get hx]
      have := d1.1 _ _ _ _ hfirst hlast (by show G.1 + (q - G.1) = q; omega)
      omega
    · unfold e_nid at *
      omega
  subst hq
  have hW := K.2 Y y H1 locs ls (by
    rw [e_cs_push (h' := e_clI h j) e1 ((e_ce_i (t := 0) (n := n) (by rw [e_kd_clI, hn]; exact e_kd_al) (by omega) (by omega)).trans (by rw [show hI (e_clI h j) (e_nid h) = hI h j from if_pos rfl])) (fun i hi => e_ce_clI_lt hi)] at p1
    exact p1) s1 a3 (by omega) (by omega)
  rw [e1, e2, show xkb Y + (hN h + 1 - xn0 Y) = xkb Y + (hN h - xn0 Y) + 1 by omega, show xsb Y + (hS h + n - xs0 Y) = xsb Y + (hS h - xs0 Y) + n by omega] at hW
  exact hW
theorem e_j_castI (C : e_jC G X cc nL own fr lo) {index j n : Nat} (hj : e_nd h j 0 n) (w : Cond.classLink own index "[I" ∈ lw_g) (d : decode cc pc = .ok (.checkcast index, 3)) (K : e_J G X (pc + 3) L (.ref (G.1 + j) :: st) h) : e_J G X pc L (.ref (G.1 + j) :: st) h :=
  e_J_mk K.1 fun Y y H locs ls a1 a2 a3 a4 a5 => va_castA (C Y y).x (C Y y).b (C Y y).ow ((C Y y).ts _ w) a1 j (a1.at hj (e_ce_i hj.1 (by omega) (by omega))) (kn_int (C Y y).kn) d (K.2 Y y H locs ls a1 a2 a3 a4 a5)
theorem e_nd_clI {j : Nat} : e_nd (e_clI h j) (e_nid h) 0 (e_ln h j) := ⟨e_kd_al, Nat.lt_succ_self _⟩
end more2
section alens
variable {G : jG} {X : jX} {cc : ByteArray} {nL : Nat} {own : String} {fr lo : Nat} {pc : Nat} {L L' : List (Nat × Value)} {st : List Value} {h : Hp}
theorem e_j_alenZ (C : e_jC G X cc nL own fr lo) {n j : Nat} (v : Int32) (hj : e_nd h j 2 n) (hv : Int32.ofNat n = v) (d : decode cc pc = .ok (.arraylength, 1)) (K : e_J G X (pc + 1) L (.int v :: st) h) : e_J G X pc L (.ref (G.1 + j) :: st) h :=
  e_J_mk K.1 fun Y y H locs ls a1 a2 a3 a4 a5 => va_alen (C Y y).x (C Y y).b (C Y y).kn.1 a1 j 2 (a1.at hj (e_ce_i hj.1 (by omega) (by omega))) rfl hv d (K.2 Y y H locs ls a1 a2 a3 a4 a5)
theorem e_j_alenB (C : e_jC G X cc nL own fr lo) {n j : Nat} (v : Int32) (hj : e_nd h j 3 n) (hv : Int32.ofNat n = v) (d : decode cc pc = .ok (.arraylength, 1)) (K : e_J G X (pc + 1) L (.int v :: st) h) : e_J G X pc L (.ref (G.1 + j) :: st) h :=
  e_J_mk K.1 fun Y y H locs ls a1 a2 a3 a4 a5 => va_alen (C Y y).x (C Y y).b (C Y y).kn.1 a1 j 3 (a1.at hj (e_ce_i hj.1 (by omega) (by omega))) rfl hv d (K.2 Y y H locs ls a1 a2 a3 a4 a5)
end alens
/-- what a new object's fields hold -/
def dv (t : Nat) : Value := if t = 1 then .long 0 else if t = 2 then .null else .int 0
def fN (own : String) (index ci N : Nat) : Prop := ∃ (Cn : String) (T : u_T) (tyf : Nat → FieldType), cls[ci]? = some (Cn, T, N) ∧ (∀ w ∈ u_ws Cn T N, w ∈ lw_g) ∧ (∀ k, k < N → parseFieldDescriptor (T k).2.2.1 = some (tyf k)) ∧ Cond.classLink own index Cn ∈ lw_g ∧ Cond.instantiable Cn N ∈ lw_g ∧ Cond.initialized Cn ∈ lw_g ∧ ∀ k, k < N → ∃ t, (FT.getD ci [])[k]? = some t ∧ defaultValue (tyf k) = dv t
section emore
variable {G : jG} {X : jX} {cc : ByteArray} {nL : Nat} {own : String} {fr lo : Nat} {pc : Nat} {L L' : List (Nat × Value)} {st : List Value} {h : Hp} {α : Type} {F : Option α} {x_ : α}
theorem e_rs0 (j k : Nat) : e_rs j k = none := rfl
theorem e_rf0 (h : Hp) (j k : Nat) : e_rf h j k = hR h j k := rfl
theorem fv_new {b t n k ty : Nat} : e_fv b (e_al h t n) (e_nid h) k ty = dv ty := by
  have h1 : hI (e_al h t n) (e_nid h) = fun _ => 0 := if_pos rfl
  have h2 : hL (e_al h t n) (e_nid h) = fun _ => 0 := if_pos rfl
  have h3 : hR (e_al h t n) (e_nid h) = fun _ => none := if_pos rfl
  unfold e_fv dv
  rw [e_rf0, h1, h2, h3]
  rfl
theorem e_j_new (C : e_jC G X cc nL own fr lo) {index ci N : Nat} (f : fN own index ci N) (d : decode cc pc = .ok (.new index, 3)) (K : e_J G X (pc + 3) L (.ref (G.1 + e_nid h) :: st) (e_al h (100 + ci) N)) : e_J G X pc L st h := by
  obtain ⟨Cn, T, tyf, f1, f2, f3, f4, f5, f6, f8⟩ := f
  have e1 : hN (e_al h (100 + ci) N) = hN h + 1 := rfl
  have e2 : hS (e_al h (100 + ci) N) = hS h + N := rfl
  have k1 := K.1
  rw [e1, e2] at k1
  refine e_J_mk ⟨by omega, by omega⟩ fun Y y H locs ls a1 a2 a3 a4 a5 => W.sz fun hz => ?_
  have hH := e_j_size (C Y y) a1 a2 a4 hz
  have hKn := (C Y y).kn.1.1 ci _ f1
  refine W.newcK (C Y y).x (C Y y).b (C Y y).ow ((C Y y).ts _ f4) ((C Y y).ts _ f5) ((C Y y).ts _ f6) rfl d (by rw [(C Y y).rc]; omega) (by rw [(C Y y).rs]; omega) hKn.2.1 hH (fun H1 kC hkC g1 z1 o1 => ?_)
  have hW := K.2 Y y H1 locs ls (e_hp_push a1 o1 (by
    rw [e_ce_o e_kd_al]
    exact ⟨_, f1, (u_born tyf (C Y y).ts f2 hKn hkC g1 f3).to (fun j hj => by
      obtain ⟨t, ht, hd⟩ := f8 j hj
      rw [hd]
      unfold vp_V
      rw [List.getD_eq_getElem?_getD, e_obF_get _ _ _ _ _ _ _ ht, fv_new]
      rfl)⟩)) ⟨Nat.le_trans a2.1 (by omega), fun q q1 q2 => (o1 q (by rw [← hH]; exact Nat.lt_of_lt_of_le q1 a2.1)).trans (a2.2.1 q q1 q2), a2.2.2⟩ a3 (by omega) (by omega)
  rw [e1, e2, show xkb Y + (hN h + 1 - xn0 Y) = xkb Y + (hN h - xn0 Y) + 1 by omega, show xsb Y + (hS h + N - xs0 Y) = xsb Y + (hS h - xs0 Y) + N by omega] at hW
  exact hW
theorem e_j_newaL (C : e_jC G X cc nL own fr lo) {v : Int32} (hm : nl v F = some x_) (w : Cond.arrayClass .long ∈ lw_g) (d : decode cc pc = .ok (.newarray .long, 2)) (K : F = some x_ → e_J G X (pc + 2) L (.ref (G.1 + e_nid h) :: st) (e_al h 1 (ix v))) : e_J G X pc L (.int v :: st) h := by
  obtain ⟨⟨v1, v2⟩, hm⟩ := nl_inv hm
  have K := K hm
  have e1 : hN (e_al h 1 (ix v)) = hN h + 1 := rfl
  have e2 : hS (e_al h 1 (ix v)) = hS h + ix v := rfl
  have k1 := K.1
  rw [e1, e2] at k1
  refine e_J_mk ⟨by omega, by omega⟩ fun Y y H locs ls a1 a2 a3 a4 a5 => W.sz fun hz => ?_
  have hH := e_j_size (C Y y) a1 a2 a4 hz
  refine va_newaK (atype := .long) (C Y y).x (C Y y).b ((C Y y).ts _ w) rfl d rfl v1 rfl (by show _ * 8 ≤ _; omega) (by rw [(C Y y).rc]; omega) (by rw [(C Y y).rs]; show _ + ix v ≤ _; omega) hH (fun H1 cA g1 z1 o1 hAr hNm => ?_)
  have hc : cA = cAg G 1 := kn_arr (C Y y).kn (p := 1) rfl (fun C => by intro z; cases z) hNm
  subst hc
  have hW := K.2 Y y H1 locs ls (e_hp_push a1 o1 (by
    rw [e_ce_l e_kd_al]
    show H1[G.1 + e_nid h]? = some (vp_cell _ _)
    rw [g1, vp_cell_l]
    have : hL (e_al h 1 (ix v)) (e_nid h) = fun _ => 0 := if_pos rfl
    rw [this]
    rfl)) ⟨Nat.le_trans a2.1 (by omega), fun q q1 q2 => (o1 q (by rw [← hH]; exact Nat.lt_of_lt_of_le q1 a2.1)).trans (a2.2.1 q q1 q2), a2.2.2⟩ a3 (by omega) (by omega)
  rw [e1, e2, show xkb Y + (hN h + 1 - xn0 Y) = xkb Y + (hN h - xn0 Y) + 1 by omega, show xsb Y + (hS h + ix v - xs0 Y) = xsb Y + (hS h - xs0 Y) + ix v by omega] at hW
  exact hW
theorem e_j_newaZ (C : e_jC G X cc nL own fr lo) {v : Int32} (hm : nl v F = some x_) (w : Cond.arrayClass .boolean ∈ lw_g) (d : decode cc pc = .ok (.newarray .boolean, 2)) (K : F = some x_ → e_J G X (pc + 2) L (.ref (G.1 + e_nid h) :: st) (e_al h 2 (ix v))) : e_J G X pc L (.int v :: st) h := by
  obtain ⟨⟨v1, v2⟩, hm⟩ := nl_inv hm
  have K := K hm
  have e1 : hN (e_al h 2 (ix v)) = hN h + 1 := rfl
  have e2 : hS (e_al h 2 (ix v)) = hS h + ix v := rfl
  have k1 := K.1
  rw [e1, e2] at k1
  refine e_J_mk ⟨by omega, by omega⟩ fun Y y H locs ls a1 a2 a3 a4 a5 => W.sz fun hz => ?_
  have hH := e_j_size (C Y y) a1 a2 a4 hz
  refine va_newaK (atype := .boolean) (C Y y).x (C Y y).b ((C Y y).ts _ w) rfl d rfl v1 rfl (by show _ * 1 ≤ _; omega) (by rw [(C Y y).rc]; omega) (by rw [(C Y y).rs]; show _ + ix v ≤ _; omega) hH (fun H1 cA g1 z1 o1 hAr hNm => ?_)
  have hc : cA = cAg G 2 := kn_arr (C Y y).kn (p := 2) rfl (fun C => by intro z; cases z) hNm
  subst hc
  have hW := K.2 Y y H1 locs ls (e_hp_push a1 o1 (by
    rw [e_ce_i (t := 2) e_kd_al (by omega) (by omega)]
    show H1[G.1 + e_nid h]? = some (vp_cell _ _)
    rw [g1, vp_cell_i]
    have : hI (e_al h 2 (ix v)) (e_nid h) = fun _ => 0 := if_pos rfl
    rw [this]
    rfl)) ⟨Nat.le_trans a2.1 (by omega), fun q q1 q2 => (o1 q (by rw [← hH]; exact Nat.lt_of_lt_of_le q1 a2.1)).trans (a2.2.1 q q1 q2), a2.2.2⟩ a3 (by omega) (by omega)
  rw [e1, e2, show xkb Y + (hN h + 1 - xn0 Y) = xkb Y + (hN h - xn0 Y) + 1 by omega, show xsb Y + (hS h + ix v - xs0 Y) = xsb Y + (hS h - xs0 Y) + ix v by omega] at hW
  exact hW
theorem e_j_newaB (C : e_jC G X cc nL own fr lo) {v : Int32} (hm : nl v F = some x_) (w : Cond.arrayClass .byte ∈ lw_g) (d : decode cc pc = .ok (.newarray .byte, 2)) (K : F = some x_ → e_J G X (pc + 2) L (.ref (G.1 + e_nid h) :: st) (e_al h 3 (ix v))) : e_J G X pc L (.int v :: st) h := by
  obtain ⟨⟨v1, v2⟩, hm⟩ := nl_inv hm
  have K := K hm
  have e1 : hN (e_al h 3 (ix v)) = hN h + 1 := rfl
  have e2 : hS (e_al h 3 (ix v)) = hS h + ix v := rfl
  have k1 := K.1
  rw [e1, e2] at k1
  refine e_J_mk ⟨by omega, by omega⟩ fun Y y H locs ls a1 a2 a3 a4 a5 => W.sz fun hz => ?_
  have hH := e_j_size (C Y y) a1 a2 a4 hz
  refine va_newaK (atype := .byte) (C Y y).x (C Y y).b ((C Y y).ts _ w) rfl d rfl v1 rfl (by show _ * 1 ≤ _; omega) (by rw [(C Y y).rc]; omega) (by rw [(C Y y).rs]; show _ + ix v ≤ _; omega) hH (fun H1 cA g1 z1 o1 hAr hNm => ?_)
  have hc : cA = cAg G 3 := kn_arr (C Y y).kn (p := 3) rfl (fun C => by intro z; cases z) hNm
  subst hc
  have hW := K.2 Y y H1 locs ls (e_hp_push a1 o1 (by
    rw [e_ce_i (t := 3) e_kd_al (by omega) (by omega)]
    show H1[G.1 + e_nid h]? = some (vp_cell _ _)
    rw [g1, vp_cell_i]
    have : hI (e_al h 3 (ix v)) (e_nid h) = fun _ => 0 := if_pos rfl
    rw [this]
    rfl)) ⟨Nat.le_trans a2.1 (by omega), fun q q1 q2 => (o1 q (by rw [← hH]; exact Nat.lt_of_lt_of_le q1 a2.1)).trans (a2.2.1 q q1 q2), a2.2.2⟩ a3 (by omega) (by omega)
  rw [e1, e2, show xkb Y + (hN h + 1 - xn0 Y) = xkb Y + (hN h - xn0 Y) + 1 by omega, show xsb Y + (hS h + ix v - xs0 Y) = xsb Y + (hS h - xs0 Y) + ix v by omega] at hW
  exact hW

/-- a new row of references -/
theorem e_j_anew (C : e_jC G X cc nL own fr lo) {v : Int32} {index ci p : Nat} {Cn : String} (hm : nl v F = some x_) (w : Cond.classLink own index Cn ∈ lw_g) (ho : ∀ Y, X.2 = some Y → va_AO Cn (xs Y)) (hci : ci < 80) (ht : (tysg G)[p]? = some (cAg G (10 + ci), .object Cn)) (d : decode cc pc = .ok (.anewarray index, 3)) (K : F = some x_ → e_J G X (pc + 3) L (.ref (G.1 + e_nid h) :: st) (e_al h (10 + ci) (ix v))) : e_J G X pc L (.int v :: st) h := by
  obtain ⟨⟨v1, v2⟩, hm⟩ := nl_inv hm
  have K := K hm
  have e1 : hN (e_al h (10 + ci) (ix v)) = hN h + 1 := rfl
  have e2 : hS (e_al h (10 + ci) (ix v)) = hS h + ix v := rfl
  have k1 := K.1
  rw [e1, e2] at k1
  refine e_J_mk ⟨by omega, by omega⟩ fun Y y H locs ls a1 a2 a3 a4 a5 => ?_
  refine va_newq (C Y y).x (C Y y).b (C Y y).ow ((C Y y).ts _ w) (ho Y y) (C Y y).kn.1 a1 a1.D a2 (fun q hq => Nat.le_trans (C Y y).bs hq) v1 rfl (by omega) (by rw [(C Y y).rc]; omega) (by rw [(C Y y).rs]; show _ + ix v ≤ _; omega) d (fun q cA H1 k2 p1 d1 s1 => W.sz fun hz => ?_)
  have hsz := (C Y y).sz
  generalize hE : (Sum.inl (cA, ix v, Sum.inr (Sum.inr (Sum.inr (Sum.inr (fun _ => none))))) : va_E) = E at p1 d1
  have hlast : (e_cs (cAg G) G.1 h ++ [(q, E)])[e_nid h]? = some (q, E) := by
    rw [List.getElem?_append_right (by rw [e_cs_len]; exact Nat.le_refl _), e_cs_len, Nat.sub_self]
    rfl
  have hlt : q < H1.size := va_at.lt (p1 _ _ hlast)
  have hge : G.1 ≤ q := d1.2 _ _ hlast
  have hq : q = G.1 + e_nid h := by
    by_cases hb : q < G.1 + e_nid h
    · exfalso
      have hx : q - G.1 < e_nid h := by omega
      have hfirst : (e_cs (cAg G) G.1 h ++ [(q, E)])[q - G.1]? = some (G.1 + (q - G.1), e_ce (cAg G) G.1 h (q - G.1)) := by
        rw [List.getElem?_append_left (by rw [e_cs_len]; exact hx), e_cs_get hx]
      have := d1.1 _ _ _ _ hfirst hlast (by show G.1 + (q - G.1) = q; omega)
      omega
    · unfold e_nid at *
      omega
  subst hq
  have hcA : cA = cAg G (10 + ci) := by
    have h1 := (k2.2 (tysg G).length (cA, .object Cn) (by rw [List.getElem?_append_right (Nat.le_refl _), Nat.sub_self]; rfl)).2
    have h2 := ((C Y y).kn.1.2 p _ ht).2
    obtain ⟨kA, comp, -, -, -, h3⟩ := h1
    obtain ⟨kA', comp', -, -, -, h4⟩ := h2
    exact Option.some.inj (h3.symm.trans h4)
  subst hcA
  have hW := K.2 Y y H1 locs ls (by
    have hcs := e_cs_push (cA := cAg G) (b := G.1) (h := h) (h' := e_al h (10 + ci) (ix v)) (e := E) e1 (by
      rw [e_ce_q e_kd_al (by omega) (by omega), ← hE]
      have : (fun k => (e_rf (e_al h (10 + ci) (ix v)) (e_nid h) k).map (G.1 + ·)) = fun _ => none := by
        funext k
        have h3 : hR (e_al h (10 + ci) (ix v)) (e_nid h) = fun _ => none := if_pos rfl
        rw [e_rf0, h3]
        rfl
      rw [this]) (fun i hi => e_ce_al_lt hi)
    rw [hcs] at p1
    exact p1) s1 a3 (by omega) (by omega)
  rw [e1, e2, show xkb Y + (hN h + 1 - xn0 Y) = xkb Y + (hN h - xn0 Y) + 1 by omega, show xsb Y + (hS h + ix v - xs0 Y) = xsb Y + (hS h - xs0 Y) + ix v by omega] at hW
  exact hW
/-- a state into the row of images -/
theorem e_j_aast (C : e_jC G X cc nL own fr lo) {i : Int32} {n j r : Nat} (hj : e_nd h j 16 n) (hm : ib i n (e_oq h (some r) 106 F) = some x_) (d : decode cc pc = .ok (.aastore, 1)) (K : F = some x_ → e_J G X (pc + 1) L st (sR h j (ix i) (some r))) : e_J G X pc L (.ref (G.1 + r) :: .int i :: .ref (G.1 + j) :: st) h := by
  obtain ⟨hi, hm⟩ := ib_inv hm
  obtain ⟨hrd, hm⟩ := e_ak_inv (show e_ak h r 106 F = some x_ from hm)
  exact e_J_mk (K hm).1 fun Y y H locs ls a1 a2 a3 a4 a5 => va_astq (r := (RX6, TX6, 19)) (C Y y).x (C Y y).b (C Y y).kn.1 a1 a1.D a2 j 4 r 6 (a1.at hj (e_ce_q hj.1 (by omega) (by omega))) rfl (a1.at hrd (e_ce_o (c := 6) hrd.1)) rfl hi d (fun H1 locs1 p1 p2 p3 => (K hm).2 Y y H1 locs1 ls (e_hp_set (h := h) (h' := sR h j (ix i) (some r)) hj.2 rfl ((e_ce_q ((e_kd_sR j).trans hj.1) (by omega) (by omega)).trans (by rw [e_rf_sR0 rfl]; rfl)) (fun i hi => e_ce_sR_ne hi) p1) p3 a3 a4 a5)
/-- a private constructor of a nest mate -/
def cJ (own : String) (index : Nat) (host : String) (y : MethodName) (bytes : ByteArray) (nL : Nat) (n : Nat) : Prop :=
  Cond.methodLinkNest own index y host ∈ NW ∧ Cond.instanceMethod y ∈ lw_g ∧ Cond.initialized y.cls ∈ lw_g ∧ Cond.code y bytes nL none ∈ lw_g ∧ y.name = "<init>" ∧ (y.cls ≠ "java/lang/invoke/MethodHandle" ∧ y.cls ≠ "java/lang/invoke/VarHandle" ∧ (parseMethodDescriptor y.desc).map (fun d => d.parameters.length) = some n)
theorem e_j_cJ (C : e_jC G X cc nL own fr lo) {β : Type} {e : Option β} {F : β → Option α} {index b n nL' fr' lo' : Nat} {host : String} {y' : MethodName} {bytes : ByteArray} (c : cJ own index host y' bytes nL' n) (As rest : List Value) (h' : β → Hp) (hm : e.bind F = some x_) (hM : ∀ l u, e = some u → e_mt G l y' bytes nL' none fr' lo' (.ref b :: As) h none (h' u)) (hst : st = As.reverse ++ .ref b :: rest) (hw : (rest.map fun v => v.category).sum ≤ 8) (hn : As.length = n) (hfr : fr' + 1 ≤ fr) (hlo : 8 + (nL' + 11) + lo' ≤ lo) (d : decode cc pc = .ok (.invokespecial index, 3)) (K : ∀ u, F u = some x_ → e_J G X (pc + 3) L rest (h' u)) : e_J G X pc L st h := by
  obtain ⟨u, hu, hm⟩ := bind_inv hm
  have K := K u hm
  refine e_J_mk ⟨Nat.le_trans (hM launch0 u hu).1.1 K.1.1, Nat.le_trans (hM launch0 u hu).1.2 K.1.2⟩ fun Y y H locs ls a1 a2 a3 a4 a5 => ?_
  obtain ⟨c1, c2, c3, c4, c5, c6⟩ := c
  obtain ⟨hmono, hMet⟩ := hM (xl Y) u hu
  refine W.sz (fun hz => ?_)
  refine e_j_back (st' := rest) y a2 a3 a4 a5 hmono rfl (va_runIN (As := As) (rest := rest) ⟨(C Y y).x, (C Y y).b, (C Y y).ml, (C Y y).ow, (C Y y).ts⟩ hMet ⟨va_cnB n (C Y y).ts (g_of c4 g_self) rfl rfl rfl ((C Y y).kn.2.1 _ c1) ((C Y y).ts _ c3) c6 ⟨by rw [(C Y y).fr_]; exact hfr, by rw [(C Y y).lo_]; exact hlo⟩, c5, (C Y y).ts _ c2⟩ ⟨e_px_blind, fun U hU hW => ⟨rfl, e_j_start (C Y y) a1 a2 (e_j_size (C Y y) a1 a2 a4 hz) U hU hW⟩⟩ rfl hn (by rw [a3.1]; exact (C Y y).nl) hst (lv_room hw) d (e_j_room (C Y y) a4 a5 hmono K.1)) K
/-- a row behind a loop that counts its turns -/
def lpc {σ τ : Type} (f : σ → Option (σ ⊕ τ)) (s : σ) : Option τ := lpn f 3000 s
theorem lpc_ok {σ τ : Type} {f : σ → Option (σ ⊕ τ)} {P : σ → Prop} {O : τ → Prop} (hb : ∀ s r, f s = some r → Sum.elim P O r → P s) {s : σ} {t : τ} (h : lpc f s = some t) (ht : O t) : P s := lp_ok hb (lp_of h) ht
end emore

section ecl
variable {G : jG} {X : jX} {cc : ByteArray} {nL : Nat} {own : String} {fr lo : Nat} {pc : Nat} {L L' : List (Nat × Value)} {st : List Value} {h : Hp} {α : Type} {F : Option α} {x_ : α}
/-- the first terms, cloned into a new node -/
def tf_g (k : Nat) : Int32 := tf_L.getD k 0
def e_tf (h : Hp) : Hp := (fun a => if a = e_nid h then tf_g else hI h a, (e_al h 0 11).2)
theorem tf_slots : (tf_L.map Value.int).toArray = Array.ofFn (n := 11) fun j => Value.int (tf_g j.val) := by decide +kernel
theorem tf_fit (i : Nat) (v : Value) (hv : (tf_L.map Value.int).toArray[i]? = some v) : fits .int v = true := by
  have hm : v ∈ tf_L.map Value.int := by
    rw [List.getElem?_toArray] at hv
    exact List.mem_of_getElem? hv
  obtain ⟨x, -, rfl⟩ := List.mem_map.mp hm
  rfl
theorem e_nd_tf : e_nd (e_tf h) (e_nid h) 0 11 := ⟨e_kd_al, Nat.lt_succ_self _⟩
theorem e_ce_tf_lt {cA : Nat → ClassId} {b i : Nat} (hi : i < e_nid h) : e_ce cA b (e_tf h) i = e_ce cA b h i :=
  e_ce_congr (e_kd_al_lt hi) (if_neg (e_nid_lt hi)) (if_neg (e_nid_lt hi)) (e_rf_congr (if_neg (e_nid_lt hi)))
theorem e_j_cloneS (C : e_jC G X cc nL own fr lo) {index : Nat} (w1 : Cond.methodLink own index ⟨"[I", "clone", "()Ljava/lang/Object;"⟩ ∈ lw_g) (w2 : Cond.sameMethod "[I" "java/lang/Object" "clone" "()Ljava/lang/Object;" ∈ lw_g) (w3 : Cond.native ⟨"java/lang/Object", "clone", "()Ljava/lang/Object;"⟩ ∈ lw_g) (w4 : Cond.instanceMethod ⟨"java/lang/Object", "clone", "()Ljava/lang/Object;"⟩ ∈ lw_g) (w5 : Cond.selects "[I" ⟨"[I", "clone", "()Ljava/lang/Object;"⟩ ⟨"java/lang/Object", "clone", "()Ljava/lang/Object;"⟩ ∈ lw_g) (w6 : Cond.castable "[I" "java/lang/Cloneable" ∈ NW) (hf : 1 ≤ fr) (hl : (st.map fun v => v.category).sum + 14 ≤ lo) (d : decode cc pc = .ok (.invokevirtual index, 3)) (K : e_J G X (pc + 3) L (.ref (G.1 + e_nid h) :: st) (e_tf h)) : e_J G X pc L (.ref (sag G 5) :: st) h := by
  have e1 : hN (e_tf h) = hN h + 1 := rfl
  have e2 : hS (e_tf h) = hS h + 11 := rfl
  have k1 := K.1
  rw [e1, e2] at k1
  refine e_J_mk ⟨by omega, by omega⟩ fun Y y H locs ls a1 a2 a3 a4 a5 => W.sz fun hz => ?_
  have hH := e_j_size (C Y y) a1 a2 a4 hz
  obtain ⟨cell, c1, c2, c3, c4, c5, c6⟩ := (C Y y).st.2.2.2.2
  have hcell : H[sag G 5]? = some cell := by rw [a2.2.1 _ (Array.getElem?_eq_some_iff.mp c1).1 c6]; exact c1
  have hsize : cell.slots.size = 11 := by rw [c2]; rfl
  have hcellE : ({ cls := cell.cls, slots := cell.slots } : Cell) = vp_cell (cAg G 0) (11, .inl tf_g) := by
    rw [c2, c3, vp_cell_i]
    unfold arrV
    rw [tf_slots]
  intro T hT Z
  obtain ⟨c0, t0', f1, f2, f3⟩ := Cond.castable_spec (va_Nw.use (A := xa Y) rfl ((C Y y).kn.2.1 _ w6))
  have hfc := kn_int (C Y y).kn
  cases hfc.symm.trans f1
  obtain ⟨-, kS, hkS, compS, hkindS⟩ := ((C Y y).kn.1.2 0 _ rfl).1 0 (fun _ => .null)
  obtain ⟨-, kA, hkA, comp, hkind⟩ := State.isArrayOf_alike Z.warmed.alike (((C Y y).kn.1.2 0 _ rfl).1 0 (fun _ => .null))
  obtain ⟨vm', Z', go⟩ := Z.cloneArray (C Y y).x (C Y y).ow ((C Y y).ts _ w1) ((C Y y).ts _ w2) ((C Y y).ts _ w3) ((C Y y).ts _ w4) ((C Y y).ts _ w5) (a := sag G 5) (cell := cell) (by rw [hT]; exact hcell) (fun k z => by rw [z] at c4; cases c4) c5 (by rw [c3]; exact hfc) f2 (by rw [c3]; exact f3)
    (fun i v hv => by
      rw [c3]
      have hk' : T.vm.classes[cAg G 0]? = some kA := hkA
      simpa [State.fitsSlot, State.slotType?, hk', hkind] using tf_fit i v (by rw [← c2]; exact hv))
    (g := F0 (xm Y) pc ls (.ref (sag G 5) :: st)) rfl (by show ls.size = _; rw [a3.1, (C Y y).nl, (C Y y).ml]) rfl (by rw [(C Y y).b]; exact d) (by rw [(C Y y).fr_]; exact hf) (by rw [(C Y y).lo_]; show 2 * 0 + _ + 14 ≤ lo; omega) (by rw [(C Y y).rc]; omega) (by rw [(C Y y).rs, hsize]; omega) (hloader := by rw [c3]; exact Vm.clonesLoader_of_array hkS hkindS)
  rw [hcellE, hsize] at Z'
  generalize hH1 : H.push (vp_cell (cAg G 0) (11, .inl tf_g)) = H1
  have z1 : H1.size = H.size + 1 := by rw [← hH1, Array.size_push]
  have g1 : H1[G.1 + e_nid h]? = some (vp_cell (cAg G 0) (11, .inl tf_g)) := by rw [← hH, ← hH1, Array.getElem?_push_size]
  have o1 : ∀ q : Nat, q < G.1 + e_nid h → H1[q]? = H[q]? := fun q hq => by rw [← hH1, Array.getElem?_push, if_neg (by rw [hH]; exact Nat.ne_of_lt hq)]
  have hW := K.2 Y y H1 locs ls (by
    intro k q hk
    obtain ⟨hlt, rfl⟩ := e_cs_at hk
    by_cases hk2 : k < e_nid h
    · rw [e_ce_tf_lt hk2]
      exact (a1 k _ (e_cs_get hk2)).kept (o1 _ (by show G.1 + k < _; omega))
    · have : k = e_nid h := by
        have : e_nid (e_tf h) = e_nid h + 1 := by unfold e_nid; rw [e1]; rfl
        omega
      subst this
      rw [e_ce_i (t := 0) (n := 11) (h := e_tf h) e_nd_tf.1 (by omega) (by omega)]
      show H1[G.1 + e_nid h]? = some (vp_cell _ _)
      rw [g1, show hI (e_tf h) (e_nid h) = tf_g from if_pos rfl]) ⟨Nat.le_trans a2.1 (by omega), fun q q1 q2 => (o1 q (by rw [← hH]; exact Nat.lt_of_lt_of_le q1 a2.1)).trans (a2.2.1 q q1 q2), a2.2.2⟩ a3 (by omega) (by omega)
  rw [e1, e2, show xkb Y + (hN h + 1 - xn0 Y) = xkb Y + (hN h - xn0 Y) + 1 by omega, show xsb Y + (hS h + 11 - xs0 Y) = xsb Y + (hS h - xs0 Y) + 11 by omega] at hW
  obtain ⟨t, b1, b2⟩ := hW ((T.setVm vm').pushCell (vp_cell (cAg G 0) (11, .inl tf_g))) (by rw [← hH1, ← hT]; rfl) Z'
  refine ⟨t, go t ?_, b2⟩
  rw [hcellE, hT, hH]
  exact b1
end ecl

