/-! the start: what the tables and the Statement's premises give: classes, array classes, static arrays, strings -/
abbrev nar_1 : List Cond := flatC (Jvm.Cond.and given_1 narrow_1)
def stNeed (q : String × String × List Int32) : List Cond :=
  [.arrayOf (.static q.1 q.2.1 "[I") .int, .exactly (.static q.1 q.2.1 "[I") "[I", .eq (.length (.static q.1 q.2.1 "[I")) (.int (Int32.ofNat q.2.2.length))] ++ (List.range q.2.2.length).map fun j => .eq (.elem (.static q.1 q.2.1 "[I") (.int (Int32.ofNat j))) (.int (q.2.2.getD j 0))
theorem st_need : ∀ q ∈ ST, ∀ w ∈ stNeed q, w ∈ nar_1 := by decide +kernel
theorem st_lays : ∀ q ∈ ST, Cond.laysStatic q.1 q.2.1 "[I" ∈ lw_tbl ∧ Cond.initialized q.1 ∈ lw_tbl := by decide +kernel
section start
variable {args : Array Value} {s : State} {A : Nat → Prop}
theorem st_one (hts : ∀ w ∈ lw_tbl, w.before args s = true) (hgv : (Jvm.Cond.and given_1 narrow_1).before args s = true) (hA : ∀ a, a < s.heap.size → ¬ A a) {q : String × String × List Int32} (hq : q ∈ ST) (hn : q.2.2.length < 2 ^ 31) : ∃ t : Nat, (Term.static q.1 q.2.1 "[I").eval args s none [] s = some (.ref t) ∧ va_Z q.1 q.2.1 "[I" (.ref t) A s s.heap ∧ va_T .int t q.2.2.length (fun j => .int (q.2.2.getD j 0)) A s s.heap := by
  have hs := flat_of_before _ hgv
  have hw : ∀ w ∈ stNeed q, w.before args s = true := fun w hw => hs w (st_need q hq w hw)
  have harr : (Cond.arrayOf (.static q.1 q.2.1 "[I") .int).before args s = true := hw _ (by simp [stNeed])
  have hlen : (Cond.eq (.length (.static q.1 q.2.1 "[I")) (.int (Int32.ofNat q.2.2.length))).before args s = true := hw _ (by simp [stNeed])
  obtain ⟨t, ht, hT⟩ := va_Tof (f := fun j => .int (q.2.2.getD j 0)) (A := A) hn harr (va_eqt hlen) (fun j hj => va_eqt (hw _ (by
    simp only [stNeed, List.mem_append, List.mem_map, List.mem_range]
    exact Or.inr ⟨j, hj, rfl⟩))) hA
  exact ⟨t, ht, va_Zref (hts _ (st_lays q hq).1) (hts _ (st_lays q hq).2) ht hA, hT⟩
theorem ST_small : ∀ q ∈ ST, q.2.2.length < 2 ^ 31 := by decide +kernel
theorem st_has (hts : ∀ w ∈ lw_tbl, w.before args s = true) (hgv : (Jvm.Cond.and given_1 narrow_1).before args s = true) (hA : ∀ a, a < s.heap.size → ¬ A a) : ∃ sa : Nat → Nat, ∀ (i : Nat) (q : String × String × List Int32), ST[i]? = some q → (Term.static q.1 q.2.1 "[I").eval args s none [] s = some (.ref (sa i)) ∧ va_Z q.1 q.2.1 "[I" (.ref (sa i)) A s s.heap ∧ va_T .int (sa i) q.2.2.length (fun j => .int (q.2.2.getD j 0)) A s s.heap := by
  have key : ∀ i : Nat, ∃ t : Nat, ∀ q : String × String × List Int32, ST[i]? = some q → (Term.static q.1 q.2.1 "[I").eval args s none [] s = some (.ref t) ∧ va_Z q.1 q.2.1 "[I" (.ref t) A s s.heap ∧ va_T .int t q.2.2.length (fun j => .int (q.2.2.getD j 0)) A s s.heap := by
    intro i
    cases hi : ST[i]? with
    | none => exact ⟨0, fun q hq => by cases hq⟩
    | some q =>
      have hm : q ∈ ST := List.mem_of_getElem? hi
      obtain ⟨t, ht⟩ := st_one hts hgv hA hm (ST_small q hm)
      exact ⟨t, fun q' hq' => by cases hq'; exact ht⟩
  exact ⟨fun i => (key i).choose, fun i q hq => (key i).choose_spec q hq⟩
theorem len_small {tm : Term} {t : Nat} {cell : Cell} {v : Value} (ht : tm.eval args s none [] s = some (.ref t)) (ha : s.arrayAt? t = some cell) (hv : (Term.length tm).eval args s none [] s = some v) : cell.slots.size < 2 ^ 31 := by
  simp only [Term.eval, ht, ha, Option.bind_eq_bind, Option.bind_some] at hv
  by_cases hlt : cell.slots.size < 2147483648
  · exact hlt
  · simp [hlt] at hv
theorem st_first (hgv : (Jvm.Cond.and given_1 narrow_1).before args s = true) (hA : ∀ a, a < s.heap.size → ¬ A a) {t cI : Nat} (ht : (Term.static "SlackRace" "TERM_FIRST" "[I").eval args s none [] s = some (.ref t)) (hT : va_T .int t 11 (fun j => .int (tf_L.getD j 0)) A s s.heap) (hI : s.vm.findClass "[I" = some cI) : ∃ cell : Cell, s.heap[t]? = some cell ∧ cell.slots = (tf_L.map Value.int).toArray ∧ cell.cls = cI ∧ cell.vm.isStatics = false ∧ cell.vm ≠ .unknown ∧ ¬ A t := by
  have hs := flat_of_before _ hgv
  have hex : (Cond.exactly (.static "SlackRace" "TERM_FIRST" "[I") "[I").before args s = true := hs _ (by decide +kernel)
  have hlen : (Cond.eq (.length (.static "SlackRace" "TERM_FIRST" "[I")) (.int 11)).before args s = true := hs _ (by decide +kernel)
  obtain ⟨a, c, cell, k, q1, q2, q3, q4, q5, q6, -⟩ := Cond.exactly_spec (args := args) (first := s) (o := none) (s := s) (idx := []) hex
  cases ht.symm.trans q1
  cases hI.symm.trans q2
  obtain ⟨cell2, h1, h2, h3, h4, h5, h6, h7⟩ := hT
  cases q3.symm.trans h1
  have hv := va_eqt hlen
  obtain ⟨b, cell3, e1, e2, e3⟩ := Term.length_spec hv
  cases ht.symm.trans e1
  have hsz : cell3.slots.size < 2 ^ 31 := len_small ht e2 hv
  obtain ⟨e4, -⟩ := State.arrayAt?_spec e2
  cases q3.symm.trans e4
  have hsize : cell.slots.size = 11 := by
    have h8 : cell.slots.size.toInt32 = Int32.ofNat 11 := h5
    have h9 := congrArg Int32.toNatClampNeg h8
    have g1 : (cell.slots.size.toInt32).toNatClampNeg = cell.slots.size := Int32.toNatClampNeg_ofNat_of_lt hsz
    have g2 : (Int32.ofNat 11).toNatClampNeg = 11 := by decide
    omega
  refine ⟨cell, q3, ?_, q6, q5, h3, h7⟩
  apply Array.ext_getElem?
  intro i
  by_cases hi : i < 11
  · rw [h6 i hi, List.getElem?_toArray, List.getElem?_map]
    have : tf_L[i]? = some (tf_L.getD i 0) := by
      rw [List.getD_eq_getElem?_getD, List.getElem?_eq_getElem (show i < tf_L.length from hi)]
      rfl
    rw [this]
    rfl
  · rw [Array.getElem?_eq_none (by omega), List.getElem?_toArray, List.getElem?_eq_none (by rw [List.length_map]; show 11 ≤ i; omega)]
/-- the string constants -/
def ktm (i : Nat) : Term := .string (KS.getD i ("", 0, "")).1 (KS.getD i ("", 0, "")).2.1
theorem ks_1 : ∀ i, i < nKS → Cond.exactly (ktm i) "java/lang/String" ∈ nar_1 ∧ Cond.eq (.field (ktm i) "java/lang/String" "coder" "B") (.int 0) ∈ nar_1 ∧ Cond.arrayOf (.field (ktm i) "java/lang/String" "value" "[B") .byte ∈ nar_1 ∧ Cond.eq (.length (.field (ktm i) "java/lang/String" "value" "[B")) (.int (Int32.ofNat (lenKS.getD i 0))) ∈ nar_1 := by decide +kernel
theorem ks_2 : ∀ i, i < nKS → ∀ j, j < lenKS.getD i 0 → Cond.eq (.elem (.field (ktm i) "java/lang/String" "value" "[B") (.int (Int32.ofNat j))) (.int ((bytKS.getD i []).getD j 0)) ∈ nar_1 := by decide +kernel
def nqP : List (Nat × Nat × Nat) := [(125, 69, 75), (134, 69, 140), (135, 75, 140), (144, 69, 142), (145, 75, 142), (146, 140, 142), (157, 69, 144), (158, 75, 144), (159, 140, 144), (160, 142, 144), (169, 69, 146), (170, 75, 146), (171, 140, 146), (172, 142, 146), (173, 144, 146), (183, 69, 148), (184, 75, 148), (185, 140, 148), (186, 142, 148), (187, 144, 148), (188, 146, 148), (197, 69, 150), (198, 75, 150), (199, 140, 150), (200, 142, 150), (201, 144, 150), (202, 146, 150), (203, 148, 150), (216, 69, 152), (217, 75, 152), (218, 140, 152), (219, 142, 152), (220, 144, 152), (221, 146, 152), (222, 148, 152), (223, 150, 152), (230, 69, 81), (231, 75, 81), (232, 140, 81), (233, 142, 81), (234, 144, 81), (235, 146, 81), (236, 148, 81), (237, 150, 81), (238, 152, 81), (246, 69, 105), (247, 75, 105), (248, 140, 105), (249, 142, 105), (250, 144, 105), (251, 146, 105), (252, 148, 105), (253, 150, 105), (254, 152, 105), (255, 81, 105), (263, 69, 103), (264, 75, 103), (265, 140, 103), (266, 142, 103), (267, 144, 103), (268, 146, 103), (269, 148, 103), (270, 150, 103), (271, 152, 103), (272, 81, 103), (273, 105, 103), (280, 69, 89), (281, 75, 89), (282, 140, 89), (283, 142, 89), (284, 144, 89), (285, 146, 89), (286, 148, 89), (287, 150, 89), (288, 152, 89), (289, 81, 89), (290, 105, 89), (291, 103, 89)]
theorem nq_in : ∀ q ∈ nqP, nar_1[q.1]? = some (Cond.not (Cond.eq (.string RX3 q.2.1) (.string RX3 q.2.2))) := by decide +kernel
theorem ks_0 : ∀ i, i < nKS → (KS.getD i ("", 0, "")).1 = RX3 := by decide +kernel
theorem ks_q : ∀ i, i < nKS → ∀ j, j < nKS → i ≠ j → (∃ q ∈ nqP, q.2 = ((KS.getD i ("", 0, "")).2.1, (KS.getD j ("", 0, "")).2.1)) ∨ ∃ q ∈ nqP, q.2 = ((KS.getD j ("", 0, "")).2.1, (KS.getD i ("", 0, "")).2.1) := by decide +kernel
theorem ks_3 (i : Nat) (hi : i < nKS) (j : Nat) (hj : j < nKS) (hne : i ≠ j) : Cond.not (Cond.eq (ktm i) (ktm j)) ∈ nar_1 ∨ Cond.not (Cond.eq (ktm j) (ktm i)) ∈ nar_1 := by
  unfold ktm
  rw [ks_0 i hi, ks_0 j hj]
  rcases ks_q i hi j hj hne with ⟨q, h1, h2⟩ | ⟨q, h1, h2⟩
  · left
    have := nq_in q h1
    rw [h2] at this
    exact List.mem_of_getElem? this
  · right
    have := nq_in q h1
    rw [h2] at this
    exact List.mem_of_getElem? this
theorem ks_4 : ∀ i, i < nKS → Cond.stringRef (KS.getD i ("", 0, "")).1 (KS.getD i ("", 0, "")).2.1 (KS.getD i ("", 0, "")).2.2 ∈ lw_tbl := by decide +kernel
theorem ks_5 : ∀ i, i < nKS → lenKS.getD i 0 < 2 ^ 31 := by decide +kernel
theorem ks_has (hts : ∀ w ∈ lw_tbl, w.before args s = true) (hgv : (Jvm.Cond.and given_1 narrow_1).before args s = true) (hA : ∀ a, a < s.heap.size → ¬ A a) : ∃ sk sv : Nat → Nat, vk_S nKS lenKS bytKS sk sv A s s.heap ∧ ∀ (i : Nat) (q : String × Nat × String), KS[i]? = some q → vk_R q.1 q.2.1 q.2.2 (sk i) s := by
  have hs := flat_of_before _ hgv
  obtain ⟨sk, sv, h1, h2⟩ := vk_Sof (N := nKS) (tm := ktm) (len := lenKS) (byt := bytKS) (A := A) ks_5 (fun i hi => hs _ (ks_1 i hi).1) (fun i hi => hs _ (ks_1 i hi).2.1) (fun i hi => hs _ (ks_1 i hi).2.2.1) (fun i hi => hs _ (ks_1 i hi).2.2.2) (fun i hi j hj => hs _ (ks_2 i hi j hj)) (fun i j hi hj hne => (ks_3 i hi j hj hne).imp (hs _) (hs _)) hA
  refine ⟨sk, sv, h1, fun i q hq => ?_⟩
  have hi : i < nKS := (List.getElem?_eq_some_iff.mp hq).1
  have hd : KS.getD i ("", 0, "") = q := by rw [List.getD_eq_getElem?_getD, hq]; rfl
  have e1 := hts _ (ks_4 i hi)
  have e2 := h2 i hi
  unfold ktm at e2
  rw [hd] at e1 e2
  exact vk_R.of e1 e2
/-- classes and array classes -/
theorem cl_has (hts : ∀ w ∈ lw_g, w.before args s = true) : ∃ (dC : Nat → ClassId) (dI : Nat → Nat → Nat), ∀ (c : Nat) (q : vw_C), cls[c]? = some q → u_Kn s q.1 q.2.1 q.2.2 (dC c) (dI c) := by
  have key : ∀ c : Nat, ∃ (cC : ClassId) (iS : Nat → Nat), ∀ q : vw_C, cls[c]? = some q → u_Kn s q.1 q.2.1 q.2.2 cC iS := by
    intro c
    match c with
    | 0 =>
      obtain ⟨cC, iS, hK⟩ := u_known (C := RX0) (T := TX0) (N := 4) hts inX0 (hts _ wd_549)
      exact ⟨cC, iS, fun q hq => by cases hq; exact hK⟩
    | 1 =>
      obtain ⟨cC, iS, hK⟩ := u_known (C := RX1) (T := TX1) (N := 2) hts inX1 (hts _ wd_835)
      exact ⟨cC, iS, fun q hq => by cases hq; exact hK⟩
    | 2 =>
      obtain ⟨cC, iS, hK⟩ := u_known (C := RX2) (T := TX2) (N := 9) hts inX2 (hts _ wd_438)
      exact ⟨cC, iS, fun q hq => by cases hq; exact hK⟩
    | 3 =>
      obtain ⟨cC, iS, hK⟩ := u_known (C := RX3) (T := TX3) (N := 10) hts inX3 (hts _ wd_276)
      exact ⟨cC, iS, fun q hq => by cases hq; exact hK⟩
    | 4 =>
      obtain ⟨cC, iS, hK⟩ := u_known (C := RX4) (T := TX4) (N := 5) hts inX4 (hts _ wd_526)
      exact ⟨cC, iS, fun q hq => by cases hq; exact hK⟩
    | 5 =>
      obtain ⟨cC, iS, hK⟩ := u_known (C := RX5) (T := TX5) (N := 12) hts inX5 (hts _ wd_476)
      exact ⟨cC, iS, fun q hq => by cases hq; exact hK⟩
    | 6 =>
      obtain ⟨cC, iS, hK⟩ := u_known (C := RX6) (T := TX6) (N := 19) hts inX6 (hts _ wd_138)
      exact ⟨cC, iS, fun q hq => by cases hq; exact hK⟩
    | 7 =>
      obtain ⟨cC, iS, hK⟩ := u_known (C := RX7) (T := TX7) (N := 2) hts inX7 (hts _ wd_258)
      exact ⟨cC, iS, fun q hq => by cases hq; exact hK⟩
    | 8 =>
      obtain ⟨cC, iS, hK⟩ := u_known (C := RX8) (T := TX8) (N := 3) hts inX8 (hts _ wd_320)
      exact ⟨cC, iS, fun q hq => by cases hq; exact hK⟩
    | 9 =>
      obtain ⟨cC, iS, hK⟩ := u_known (C := RX9) (T := TX9) (N := 14) hts inX9 (hts _ wd_314)
      exact ⟨cC, iS, fun q hq => by cases hq; exact hK⟩
    | 10 =>
      obtain ⟨cC, iS, hK⟩ := u_known (C := RX10) (T := TX10) (N := 13) hts inX10 (hts _ wd_391)
      exact ⟨cC, iS, fun q hq => by cases hq; exact hK⟩
    | 11 =>
      obtain ⟨cC, iS, hK⟩ := u_known (C := RX11) (T := TX11) (N := 15) hts inX11 (hts _ wd_130)
      exact ⟨cC, iS, fun q hq => by cases hq; exact hK⟩
    | 12 =>
      obtain ⟨cC, iS, hK⟩ := u_known (C := RX12) (T := TX12) (N := 52) hts inX12 (hts _ wd_1320)
      exact ⟨cC, iS, fun q hq => by cases hq; exact hK⟩
    | c + 13 => exact ⟨0, fun _ => 0, fun q hq => by simp [cls] at hq⟩
  exact ⟨fun c => (key c).choose, fun c => (key c).choose_spec.choose, fun c q hq => (key c).choose_spec.choose_spec q hq⟩
theorem ar_one {ty : FieldType} (h : (Cond.arrayClass ty).before args s = true) (hty : ∀ C, ty ≠ .object C) : ∃ cA : ClassId, ArrOfT s cA ty ∧ va_RA s cA ty := by
  obtain ⟨c, k, comp, h1, h2, h3⟩ := Cond.arrayClass_spec (args := args) (first := s) (o := none) (s := s) (idx := []) h
  refine ⟨c, fun n z => ⟨fun k h => (by cases h), k, h2, comp, h3⟩, ?_⟩
  cases ty with
  | object C => exact absurd rfl (hty C)
  | _ => exact h1
end start
theorem NW_in : ∀ w ∈ NW, w ∈ lw_tbl := by decide +kernel
theorem ao_6 : Cond.arrayOver (.object RX6) ∈ lw_tbl := by decide +kernel
theorem ao_1 : Cond.arrayOver (.object RX1) ∈ lw_tbl := by decide +kernel
theorem cs_w : Cond.laysStatic "java/lang/String" "COMPACT_STRINGS" "Z" ∈ lw_tbl ∧ Cond.initialized "java/lang/String" ∈ lw_tbl ∧ Cond.laysStatic "jdk/internal/util/Preconditions" "SIOOBE_FORMATTER" "Ljava/util/function/BiFunction;" ∈ lw_tbl ∧ Cond.initialized "jdk/internal/util/Preconditions" ∈ lw_tbl := by decide +kernel
theorem cs_n : Cond.eq (.static "java/lang/String" "COMPACT_STRINGS" "Z") (.int 1) ∈ nar_1 ∧ Cond.isRef (.static "jdk/internal/util/Preconditions" "SIOOBE_FORMATTER" "Ljava/util/function/BiFunction;") ∈ nar_1 := by decide +kernel
theorem ST_5 : ST[5]? = some ("SlackRace", "TERM_FIRST", tf_L) := by decide +kernel
theorem g_has {args : Array Value} {s : State} (hts : ∀ w ∈ lw_tbl, w.before args s = true) (hgv : (Jvm.Cond.and given_1 narrow_1).before args s = true) : ∃ G : jG, G.1 = s.heap.size ∧ kn G s ∧ stc G s s.heap ∧ stk G s := by
  have htg : ∀ w ∈ lw_g, w.before args s = true := fun w hw => hts w (List.mem_filter.mp hw).1
  have hs := flat_of_before _ hgv
  have hA : ∀ a, a < s.heap.size → ¬ (fun q => s.heap.size ≤ q) a := fun a h => Nat.not_le.mpr h
  obtain ⟨dC, dI, hcl⟩ := cl_has htg
  obtain ⟨c0, x0, r0⟩ := ar_one (ty := .int) (htg _ wd_255) (by intro C z; cases z)
  obtain ⟨c1, x1, r1⟩ := ar_one (ty := .long) (htg _ wd_389) (by intro C z; cases z)
  obtain ⟨c2, x2, r2⟩ := ar_one (ty := .boolean) (htg _ wd_274) (by intro C z; cases z)
  obtain ⟨c3, x3, r3⟩ := ar_one (ty := .byte) (htg _ wd_858) (by intro C z; cases z)
  obtain ⟨m6, c16, k16, p1, -, p2, p3, p4⟩ := Cond.arrayOver_spec (args := args) (first := s) (o := none) (s := s) (idx := []) (hts _ ao_6)
  obtain ⟨m1, c11, k11, q1, -, q2, q3, q4⟩ := Cond.arrayOver_spec (args := args) (first := s) (o := none) (s := s) (idx := []) (hts _ ao_1)
  obtain ⟨sa, hsa⟩ := st_has hts hgv hA
  obtain ⟨sk, sv, hS, hR⟩ := ks_has hts hgv hA
  refine ⟨(s.heap.size, dC, dI, fun t => if t = 0 then c0 else if t = 1 then c1 else if t = 2 then c2 else if t = 3 then c3 else if t = 16 then c16 else c11, sa, sk, sv), rfl, ⟨⟨hcl, ?_⟩, fun w hw => va_Nw.of (NW_tab w hw) (hts w (NW_in w hw)), va_AO.of (hts _ ao_6), va_AO.of (hts _ ao_1)⟩, ⟨fun i q hq => (hsa i q hq).2, hS, ?_, ?_, ?_⟩, hR⟩
  · intro k q hk
    match k, hk with
    | 0, hk => cases hk; exact ⟨x0, r0⟩
    | 1, hk => cases hk; exact ⟨x1, r1⟩
    | 2, hk => cases hk; exact ⟨x2, r2⟩
    | 3, hk => cases hk; exact ⟨x3, r3⟩
    | 4, hk => cases hk; exact ⟨fun N z => ⟨(fun k h => by cases h), k16, p2, m6, p3⟩, k16, m6, p2, p3, p1, p4⟩
    | 5, hk => cases hk; exact ⟨fun N z => ⟨(fun k h => by cases h), k11, q2, m1, q3⟩, k11, m1, q2, q3, q1, q4⟩
    | k + 6, hk => simp [tysg] at hk
  · exact va_Zof (hts _ cs_w.1) (hts _ cs_w.2.1) (va_eqi (hs _ cs_n.1)) hA
  · exact va_Zqof (hts _ cs_w.2.2.1) (hts _ cs_w.2.2.2) (hs _ cs_n.2) hA
  · exact st_first hgv hA (hsa 5 _ ST_5).1 (hsa 5 _ ST_5).2.2 r0

