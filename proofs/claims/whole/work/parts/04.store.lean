abbrev NS : Nat := 114
def KD : List (Nat × Nat) := [(111, 15), (106, 19), (0, 6), (0, 24), (0, 11), (0, 50), (11, 6), (0, 6), (0, 6), (0, 40), (0, 6), (0, 6), (0, 6), (0, 12), (0, 12), (16, 2), (106, 19), (0, 6), (0, 24), (0, 11), (0, 50), (11, 6), (0, 6), (0, 6), (0, 40), (0, 6), (0, 6), (0, 6), (0, 12), (0, 12), (106, 19), (0, 6), (0, 24), (0, 11), (0, 50), (11, 6), (0, 6), (0, 6), (0, 40), (0, 6), (0, 6), (0, 6), (0, 12), (0, 12), (2, 2), (107, 2), (0, 400), (103, 10), (0, 400), (0, 48), (109, 14), (108, 3), (0, 7), (0, 64), (0, 2880), (0, 24), (1, 21), (0, 1440), (110, 13), (0, 864), (0, 864), (1, 6), (1, 144), (1, 144), (1, 144), (1, 144), (1, 144), (0, 50), (0, 50), (102, 9), (0, 6), (0, 6), (0, 6), (0, 6), (105, 12), (0, 12), (0, 12), (0, 12), (104, 5), (0, 1441), (100, 4), (1, 52), (1, 52), (0, 4), (112, 52), (0, 7), (0, 4998), (0, 9996), (2, 2), (3, 68), (3, 400), (0, 5), (0, 401), (0, 401), (0, 401), (0, 7), (0, 24), (0, 1440), (0, 1440), (3, 8640), (2, 7200), (2, 7200), (0, 50), (0, 50), (0, 6), (0, 6), (0, 6), (0, 6), (0, 12), (0, 1440), (0, 1440), (1, 52), (1, 52), (0, 1440)]
def RS : List (List (Option Nat)) := [[some 1, some 15, some 44, some 45, some 47, some 50, some 58, some 69, some 74, some 78, some 80, some 83], [some 2, some 3, some 4, some 5, some 6, some 7, some 8, some 9, some 10, some 11, some 12, some 13, some 14], [], [], [], [], [], [], [], [], [], [], [], [], [], [some 16, some 30], [some 17, some 18, some 19, some 20, some 21, some 22, some 23, some 24, some 25, some 26, some 27, some 28, some 29], [], [], [], [], [], [], [], [], [], [], [], [], [], [some 31, some 32, some 33, some 34, some 35, some 36, some 37, some 38, some 39, some 40, some 41, some 42, some 43], [], [], [], [], [], [], [], [], [], [], [], [], [], [], [some 46], [], [some 45, some 48, some 49], [], [], [some 1, some 51, some 54, some 55, some 56, some 57], [some 52, some 53], [], [], [], [], [], [], [some 1, some 50, some 59, some 60, some 61, some 62, some 63, some 64, some 65, some 66, some 67, some 68], [], [], [], [], [], [], [], [], [], [], [some 1, some 50, none, some 70, some 71, some 72, some 73], [], [], [], [], [some 1, some 50, some 75, some 76, some 77], [], [], [], [some 50, some 79], [], [some 1, some 50, some 81, some 82], [], [], [], [none, none, some 85, some 86, some 87, some 88, none, some 89, some 90, some 91, none, none, some 92, some 93, some 94, none, none, none, none, none, none, none, some 95, none, none, some 96, some 97, some 98, none, some 99, some 100, some 101, some 102, some 103, some 104, some 105, some 106, some 107, none, none, none, none, none, none, none, some 108, some 109, some 110, some 111, some 112, some 113], [], [], [], [], [], [], [], [], [], [], [], [], [], [], [], [], [], [], [], [], [], [], [], [], [], [], [], [], []]
def FT : List (List Nat) := [[2, 2, 2, 2], [2, 2], [2, 2, 2, 2, 2, 2, 2, 0, 3], [2, 2, 2, 0, 0, 0, 0, 0, 0, 0], [2, 2, 0, 3, 3], [2, 2, 2, 2, 2, 0, 0, 0, 0, 0, 0, 0], [2, 2, 2, 2, 2, 2, 2, 2, 2, 2, 2, 2, 2, 0, 0, 0, 0, 0, 0], [2, 0], [2, 2, 0], [2, 2, 2, 2, 2, 2, 2, 2, 2, 3, 3, 3, 0, 0], [2, 2, 2, 2, 2, 2, 2, 2, 2, 2, 2, 2, 3], [2, 2, 2, 2, 2, 2, 2, 2, 2, 2, 2, 2, 0, 0, 0], [0, 0, 2, 2, 2, 2, 0, 2, 2, 2, 0, 0, 2, 2, 2, 0, 0, 0, 0, 0, 0, 3, 2, 1, 3, 2, 2, 2, 0, 2, 2, 2, 2, 2, 2, 2, 2, 2, 0, 0, 0, 0, 0, 0, 0, 2, 2, 2, 2, 2, 2, 3]]
abbrev cls : List vw_C := [(RX0, TX0, 4), (RX1, TX1, 2), (RX2, TX2, 9), (RX3, TX3, 10), (RX4, TX4, 5), (RX5, TX5, 12), (RX6, TX6, 19), (RX7, TX7, 2), (RX8, TX8, 3), (RX9, TX9, 14), (RX10, TX10, 13), (RX11, TX11, 15), (RX12, TX12, 52)]
def NW : List Cond := [Cond.fieldLinkNest "SlackRace$State" 18 "SlackRace" "TERM_FIRST" "[I" "SlackRace", Cond.fieldLinkNest "SlackRace$State" 81 "SlackRace" "MOON_FIRST" "[I" "SlackRace", Cond.methodLinkNest "SlackRace" 26 ⟨"SlackRace$Tape", "<init>", "()V"⟩ "SlackRace", Cond.methodLinkNest "SlackRace$Water" 11 ⟨"SlackRace$Teller", "<init>", "()V"⟩ "SlackRace", Cond.methodLinkNest "SlackRace$Water" 75 ⟨"SlackRace", "moonPlace", "(II)I"⟩ "SlackRace", Cond.methodLinkNest "SlackRace$Water" 86 ⟨"SlackRace", "wave", "(III)I"⟩ "SlackRace", Cond.methodLinkNest "SlackRace$Water" 127 ⟨"SlackRace", "nearest", "(III)I"⟩ "SlackRace", Cond.methodLinkNest "SlackRace$Ways" 163 ⟨"SlackRace", "nearest", "(III)I"⟩ "SlackRace", Cond.methodLinkNest "SlackRace$Soundings" 51 ⟨"SlackRace", "moonPlace", "(II)I"⟩ "SlackRace", Cond.methodLinkNest "SlackRace$Soundings" 76 ⟨"SlackRace", "wave", "(III)I"⟩ "SlackRace", Cond.methodLinkNest "SlackRace$Drift" 66 ⟨"SlackRace", "isWithin", "(III)Z"⟩ "SlackRace", Cond.castable "[I" "java/lang/Cloneable"]
def ST : List (String × String × List Int32) := [("SlackRace", "MOON_FIRST", [0, 720, 0]), ("SlackRace", "MOON_LEAST", [0, 60, 0]), ("SlackRace", "MOON_MOST", [500, 2000, 1999]), ("SlackRace", "SEA_LEAST", [-500, 0, -5]), ("SlackRace", "SEA_MOST", [500, 3, 5]), ("SlackRace", "TERM_FIRST", [8, 10, 40, 50, 0, 20, 100, 2, 5, 0, 1013]), ("SlackRace", "TERM_LEAST", [0, 0, 1, 0, -1000, 0, 1, 0, 0, -40, 950]), ("SlackRace", "TERM_MOST", [50, 50, 500, 500, 1000, 60, 500, 20, 50, 40, 1050])]
def KS : List (String × Nat × String) := [("SlackRace$Reader", 69, "gains"), ("SlackRace$Reader", 75, "white"), ("SlackRace$Reader", 140, "fall"), ("SlackRace$Reader", 142, "flow"), ("SlackRace$Reader", 144, "minute"), ("SlackRace$Reader", 146, "wind"), ("SlackRace$Reader", 148, "glass"), ("SlackRace$Reader", 150, "kind"), ("SlackRace$Reader", 152, "turbines"), ("SlackRace$Reader", 81, "if"), ("SlackRace$Reader", 105, "not"), ("SlackRace$Reader", 103, "and"), ("SlackRace$Reader", 89, "or")]
abbrev nKS : Nat := 13
def lenKS : List Nat := [5, 5, 4, 4, 6, 4, 5, 4, 8, 2, 3, 3, 2]
def bytKS : List (List Int32) := [[103, 97, 105, 110, 115], [119, 104, 105, 116, 101], [102, 97, 108, 108], [102, 108, 111, 119], [109, 105, 110, 117, 116, 101], [119, 105, 110, 100], [103, 108, 97, 115, 115], [107, 105, 110, 100], [116, 117, 114, 98, 105, 110, 101, 115], [105, 102], [110, 111, 116], [97, 110, 100], [111, 114]]
/-! the store: what the cells of the system hold, by node number (the static nodes first, in the order in which they are made) -/
abbrev Hp : Type := (Nat → Nat → Int32) × (Nat → Nat → Int64) × (Nat → Nat → Option Nat) × Nat × (Nat → Nat × Nat) × Nat
def hI (h : Hp) : Nat → Nat → Int32 := h.1
def hL (h : Hp) : Nat → Nat → Int64 := h.2.1
def hR (h : Hp) : Nat → Nat → Option Nat := h.2.2.1
def hN (h : Hp) : Nat := h.2.2.2.1
def hD (h : Hp) : Nat → Nat × Nat := h.2.2.2.2.1
def hS (h : Hp) : Nat := h.2.2.2.2.2
def sI (h : Hp) (j k : Nat) (v : Int32) : Hp := (fun a => if a = j then upd (hI h a) k v else hI h a, h.2)
def sL (h : Hp) (j k : Nat) (v : Int64) : Hp := (h.1, fun a => if a = j then vp_updL (hL h a) k v else hL h a, h.2.2)
def sR (h : Hp) (j k : Nat) (v : Option Nat) : Hp := (h.1, h.2.1, fun a => if a = j then va_up (hR h a) k v else hR h a, h.2.2.2)
def cpI (h : Hp) (a : Nat) (sp : Int32) (b : Nat) (dp n : Int32) : Hp := (fun q => if q = b then va_cpy (hI h a) (hI h b) sp.toNatClampNeg dp.toNatClampNeg n.toNatClampNeg else hI h q, h.2)
def nid (h : Hp) : Nat := NS + hN h
def al (h : Hp) (t n : Nat) : Hp := (fun a => if a = nid h then (fun _ => 0) else hI h a, fun a => if a = nid h then (fun _ => 0) else hL h a, fun a => if a = nid h then (fun _ => none) else hR h a, hN h + 1, fun i => if i = hN h then (t, n) else hD h i, hS h + n)
/-- the kind of a node (0 int[], 1 long[], 2 boolean[], 3 byte[], 10 + c a row of class c's, 100 + c an object of class c) and its size -/
def kd (h : Hp) (j : Nat) : Nat × Nat := if j < NS then KD.getD j (0, 0) else hD h (j - NS)
def rs (j k : Nat) : Option Nat := (RS.getD j []).getD k none
def rf (h : Hp) (j k : Nat) : Option Nat := match rs j k with
  | some r => some r
  | none => hR h j k
def fv (b : Nat) (h : Hp) (j k t : Nat) : Value := if t = 1 then .long (hL h j k) else if t = 2 then va_rf ((rf h j k).map (b + ·)) else .int (hI h j k)
def obF (b : Nat) (h : Hp) (j : Nat) : Nat → List Nat → List Value
  | _, [] => []
  | k, t :: ts => fv b h j k t :: obF b h j (k + 1) ts
def ce (cA : Nat → ClassId) (b : Nat) (h : Hp) (j : Nat) : va_E :=
  if 100 ≤ (kd h j).1 then .inr ((kd h j).1 - 100, obF b h j 0 (FT.getD ((kd h j).1 - 100) []))
  else if 10 ≤ (kd h j).1 then .inl (cA (kd h j).1, (kd h j).2, .inr (.inr (.inr (.inr fun k => (rf h j k).map (b + ·)))))
  else if (kd h j).1 = 1 then .inl (cA 1, (kd h j).2, .inr (.inl (hL h j)))
  else .inl (cA (kd h j).1, (kd h j).2, .inl (hI h j))
def cs (cA : Nat → ClassId) (b : Nat) (h : Hp) : va_W := (List.range (nid h)).map fun j => (b + j, ce cA b h j)
def nd (h : Hp) (j t n : Nat) : Prop := kd h j = (t, n) ∧ j < nid h
theorem nd_of {h : Hp} {j t n : Nat} (h1 : j < NS) (h2 : KD.getD j (0, 0) = (t, n)) : nd h j t n := ⟨by rw [kd, if_pos h1, h2], Nat.lt_of_lt_of_le h1 (Nat.le_add_right _ _)⟩
theorem cs_get {cA : Nat → ClassId} {b : Nat} {h : Hp} {j : Nat} (hj : j < nid h) : (cs cA b h)[j]? = some (b + j, ce cA b h j) := by
  simp [cs, hj]
theorem cs_len {cA : Nat → ClassId} {b : Nat} {h : Hp} : (cs cA b h).length = nid h := by simp [cs]
theorem cs_at {cA : Nat → ClassId} {b : Nat} {h : Hp} {k : Nat} {q : Nat × va_E} (hq : (cs cA b h)[k]? = some q) : k < nid h ∧ q = (b + k, ce cA b h k) := by
  have hk : k < nid h := by
    have := (List.getElem?_eq_some_iff.mp hq).1
    rwa [cs_len] at this
  rw [cs_get hk] at hq
  exact ⟨hk, (Option.some.inj hq).symm⟩
theorem cs_D {cA : Nat → ClassId} {b : Nat} {h : Hp} : va_D (fun q => b ≤ q) (cs cA b h) := by
  refine ⟨fun i j p q hi hj e => ?_, fun k q hk => ?_⟩
  · obtain ⟨-, rfl⟩ := cs_at hi
    obtain ⟨-, rfl⟩ := cs_at hj
    have e : b + i = b + j := e
    omega
  · obtain ⟨-, rfl⟩ := cs_at hk
    exact Nat.le_add_right _ _
theorem cs_set {cA : Nat → ClassId} {b : Nat} {h h' : Hp} {j : Nat} {e : va_E} (hj : j < nid h) (hn : hN h' = hN h) (he : ce cA b h' j = e) (ho : ∀ i, i ≠ j → ce cA b h' i = ce cA b h i) : (cs cA b h).set j (b + j, e) = cs cA b h' := by
  have hz : nid h' = nid h := by rw [nid, nid, hn]
  apply List.ext_getElem?
  intro k
  by_cases hk : k < nid h
  · rw [cs_get (by rw [hz]; exact hk)]
    by_cases hkj : k = j
    · subst hkj
      rw [List.getElem?_set_self (by rw [cs_len]; exact hk), he]
    · rw [List.getElem?_set_ne (Ne.symm hkj), cs_get hk, ho k hkj]
  · rw [List.getElem?_eq_none (by rw [List.length_set, cs_len]; omega), List.getElem?_eq_none (by rw [cs_len]; omega)]
theorem cs_push {cA : Nat → ClassId} {b : Nat} {h h' : Hp} {e : va_E} (hn : hN h' = hN h + 1) (he : ce cA b h' (nid h) = e) (ho : ∀ i, i < nid h → ce cA b h' i = ce cA b h i) : cs cA b h ++ [(b + nid h, e)] = cs cA b h' := by
  have hz : nid h' = nid h + 1 := by rw [nid, nid, hn]; rfl
  apply List.ext_getElem?
  intro k
  by_cases hk : k < nid h
  · rw [List.getElem?_append_left (by rw [cs_len]; exact hk), cs_get hk, cs_get (by omega), ho k hk]
  · by_cases hk2 : k = nid h
    · subst hk2
      rw [List.getElem?_append_right (by rw [cs_len]; exact Nat.le_refl _), cs_len, Nat.sub_self, cs_get (by omega), he]
      rfl
    · rw [List.getElem?_eq_none (by rw [List.length_append, cs_len]; show nid h + 1 ≤ k; omega), List.getElem?_eq_none (by rw [cs_len]; omega)]
/-- cells by kind -/
theorem ce_i {cA : Nat → ClassId} {b : Nat} {h : Hp} {j t n : Nat} (hk : kd h j = (t, n)) (h1 : t < 10) (h2 : t ≠ 1) : ce cA b h j = .inl (cA t, n, .inl (hI h j)) := by
  rw [ce, hk, if_neg (by show ¬ 100 ≤ t; omega), if_neg (by show ¬ 10 ≤ t; omega), if_neg h2]
theorem ce_l {cA : Nat → ClassId} {b : Nat} {h : Hp} {j n : Nat} (hk : kd h j = (1, n)) : ce cA b h j = .inl (cA 1, n, .inr (.inl (hL h j))) := by
  rw [ce, hk, if_neg (by show ¬ 100 ≤ 1; omega), if_neg (by show ¬ 10 ≤ 1; omega), if_pos rfl]
theorem ce_q {cA : Nat → ClassId} {b : Nat} {h : Hp} {j t n : Nat} (hk : kd h j = (t, n)) (h1 : 10 ≤ t) (h2 : t < 100) : ce cA b h j = .inl (cA t, n, .inr (.inr (.inr (.inr fun k => (rf h j k).map (b + ·))))) := by
  rw [ce, hk, if_neg (by show ¬ 100 ≤ t; omega), if_pos h1]
theorem ce_o {cA : Nat → ClassId} {b : Nat} {h : Hp} {j c n : Nat} (hk : kd h j = (100 + c, n)) : ce cA b h j = .inr (c, obF b h j 0 (FT.getD c [])) := by
  rw [ce, hk, if_pos (by show 100 ≤ 100 + c; omega)]
  show Sum.inr (100 + c - 100, _) = _
  rw [Nat.add_sub_cancel_left]
theorem obF_len (b : Nat) (h : Hp) (j : Nat) : ∀ (ts : List Nat) (k : Nat), (obF b h j k ts).length = ts.length
  | [], _ => rfl
  | _ :: ts, k => congrArg (· + 1) (obF_len b h j ts (k + 1))
theorem obF_get (b : Nat) (h : Hp) (j : Nat) : ∀ (ts : List Nat) (k i : Nat) (t : Nat), ts[i]? = some t → (obF b h j k ts)[i]? = some (fv b h j (k + i) t)
  | [], _, _, _, e => by cases e
  | t0 :: ts, k, 0, t, e => by cases e; rfl
  | t0 :: ts, k, i + 1, t, e => by
    have := obF_get b h j ts (k + 1) i t e
    rw [show k + (i + 1) = k + 1 + i by omega]
    exact this
theorem obF_set (b : Nat) (h h' : Hp) (j : Nat) : ∀ (ts : List Nat) (k i : Nat) (v : Value), (∀ q, q ≠ k + i → ∀ t, fv b h' j q t = fv b h j q t) → (∀ t, ts[i]? = some t → fv b h' j (k + i) t = v) → (obF b h j k ts).set i v = obF b h' j k ts
  | [], _, _, _, _, _ => rfl
  | t0 :: ts, k, 0, v, ho, hv => by
    have h1 : ∀ (ts : List Nat) (k' : Nat), k < k' → obF b h j k' ts = obF b h' j k' ts := by
      intro ts
      induction ts with
      | nil => intro k' _; rfl
      | cons t ts ih => intro k' hk; rw [obF, obF, ho k' (by omega), ih (k' + 1) (by omega)]
    rw [obF, List.set_cons_zero, obF, h1 ts (k + 1) (by omega)]
    have := hv t0 rfl
    rw [Nat.add_zero] at this
    rw [this]
  | t0 :: ts, k, i + 1, v, ho, hv => by
    rw [obF, List.set_cons_succ, obF, ho k (by omega) t0]
    congr 1
    exact obF_set b h h' j ts (k + 1) i v (fun q hq => ho q (by omega)) (fun t ht => by rw [show k + 1 + i = k + (i + 1) by omega]; exact hv t ht)
/-- what a write leaves -/
theorem kd_sI {h : Hp} {j k : Nat} {v : Int32} (i : Nat) : kd (sI h j k v) i = kd h i := rfl
theorem kd_sL {h : Hp} {j k : Nat} {v : Int64} (i : Nat) : kd (sL h j k v) i = kd h i := rfl
theorem kd_sR {h : Hp} {j k : Nat} {v : Option Nat} (i : Nat) : kd (sR h j k v) i = kd h i := rfl
theorem kd_cpI {h : Hp} {a b : Nat} {sp dp n : Int32} (i : Nat) : kd (cpI h a sp b dp n) i = kd h i := rfl
theorem rf_sI {h : Hp} {j k : Nat} {v : Int32} (i q : Nat) : rf (sI h j k v) i q = rf h i q := rfl
theorem rf_sL {h : Hp} {j k : Nat} {v : Int64} (i q : Nat) : rf (sL h j k v) i q = rf h i q := rfl
theorem hI_sI {h : Hp} {j k : Nat} {v : Int32} : hI (sI h j k v) j = upd (hI h j) k v := if_pos rfl
theorem hI_sI_ne {h : Hp} {j k : Nat} {v : Int32} {i : Nat} (hi : i ≠ j) : hI (sI h j k v) i = hI h i := if_neg hi
theorem hL_sL {h : Hp} {j k : Nat} {v : Int64} : hL (sL h j k v) j = vp_updL (hL h j) k v := if_pos rfl
theorem hL_sL_ne {h : Hp} {j k : Nat} {v : Int64} {i : Nat} (hi : i ≠ j) : hL (sL h j k v) i = hL h i := if_neg hi
theorem hR_sR {h : Hp} {j k : Nat} {v : Option Nat} : hR (sR h j k v) j = va_up (hR h j) k v := if_pos rfl
theorem hR_sR_ne {h : Hp} {j k : Nat} {v : Option Nat} {i : Nat} (hi : i ≠ j) : hR (sR h j k v) i = hR h i := if_neg hi
theorem fv_congr {b : Nat} {h h' : Hp} {j k : Nat} (e1 : hI h' j k = hI h j k) (e2 : hL h' j k = hL h j k) (e3 : rf h' j k = rf h j k) (t : Nat) : fv b h' j k t = fv b h j k t := by
  rw [fv, fv, e1, e2, e3]
theorem obF_congr {b : Nat} {h h' : Hp} {j : Nat} (e1 : hI h' j = hI h j) (e2 : hL h' j = hL h j) (e3 : rf h' j = rf h j) : ∀ (ts : List Nat) (k : Nat), obF b h' j k ts = obF b h j k ts
  | [], _ => rfl
  | t :: ts, k => by
    rw [obF, obF, obF_congr e1 e2 e3 ts, fv_congr (h := h) (h' := h') (by rw [e1]) (by rw [e2]) (by rw [e3])]
theorem ce_congr {cA : Nat → ClassId} {b : Nat} {h h' : Hp} {j : Nat} (e0 : kd h' j = kd h j) (e1 : hI h' j = hI h j) (e2 : hL h' j = hL h j) (e3 : rf h' j = rf h j) : ce cA b h' j = ce cA b h j := by
  rw [ce, ce, e0, e1, e2, e3, obF_congr e1 e2 e3]
theorem rf_congr {h h' : Hp} {j : Nat} (e : hR h' j = hR h j) : rf h' j = rf h j := by
  funext k
  rw [rf, rf, e]
theorem ce_sI_ne {cA : Nat → ClassId} {b : Nat} {h : Hp} {j k : Nat} {v : Int32} {i : Nat} (hi : i ≠ j) : ce cA b (sI h j k v) i = ce cA b h i := ce_congr rfl (hI_sI_ne hi) rfl rfl
theorem ce_sL_ne {cA : Nat → ClassId} {b : Nat} {h : Hp} {j k : Nat} {v : Int64} {i : Nat} (hi : i ≠ j) : ce cA b (sL h j k v) i = ce cA b h i := ce_congr rfl rfl (hL_sL_ne hi) rfl
theorem ce_sR_ne {cA : Nat → ClassId} {b : Nat} {h : Hp} {j k : Nat} {v : Option Nat} {i : Nat} (hi : i ≠ j) : ce cA b (sR h j k v) i = ce cA b h i := ce_congr rfl rfl rfl (rf_congr (hR_sR_ne hi))
theorem ce_cpI_ne {cA : Nat → ClassId} {b : Nat} {h : Hp} {x y : Nat} {sp dp n : Int32} {i : Nat} (hi : i ≠ y) : ce cA b (cpI h x sp y dp n) i = ce cA b h i := ce_congr rfl (if_neg hi) rfl rfl
/-- a new node -/
theorem nid_lt {h : Hp} {i : Nat} (hi : i < nid h) : i ≠ nid h := Nat.ne_of_lt hi
theorem kd_al {h : Hp} {t n : Nat} : kd (al h t n) (nid h) = (t, n) := by
  have h1 : ¬ nid h < NS := by unfold nid; omega
  have h2 : nid h - NS = hN h := by unfold nid; omega
  rw [kd, if_neg h1, h2]
  exact if_pos rfl
theorem kd_al_lt {h : Hp} {t n i : Nat} (hi : i < nid h) : kd (al h t n) i = kd h i := by
  rw [kd, kd]
  by_cases h1 : i < NS
  · rw [if_pos h1, if_pos h1]
  · rw [if_neg h1, if_neg h1]
    exact if_neg (by unfold nid at hi; omega)
theorem ce_al_lt {cA : Nat → ClassId} {b : Nat} {h : Hp} {t n i : Nat} (hi : i < nid h) : ce cA b (al h t n) i = ce cA b h i :=
  ce_congr (kd_al_lt hi) (if_neg (nid_lt hi)) (if_neg (nid_lt hi)) (rf_congr (if_neg (nid_lt hi)))
