/-! ships: the class's freshen -/
theorem cand_ok (row K : Nat → Int32) (n : Nat) : ∀ (k : Nat) (used : List Nat) (free : Nat) (c : List (Nat × Nat) × Nat), c ∈ cand row K n k used free → c.1.length = k ∧ (c.1.map Prod.fst).Nodup ∧ ∀ x, x ∈ c.1.map Prod.fst → x < n ∧ ¬ x ∈ used
  | 0, used, free, c, h => by
    rw [cand] at h
    rw [List.mem_singleton.mp h]
    exact ⟨rfl, List.nodup_nil, fun x hx => by cases hx⟩
  | k + 1, used, free, c, h => by
    rw [cand] at h
    obtain ⟨s, h1, h2⟩ := List.mem_flatMap.mp h
    by_cases z : s ∈ used
    · rw [if_pos z] at h2; cases h2
    · rw [if_neg z] at h2
      cases hb : bgA row K s (max (ix (K (103 + 3 * s))) free) with
      | none => rw [hb] at h2; cases h2
      | some b =>
        rw [hb] at h2
        obtain ⟨d, h3, h4⟩ := List.mem_map.mp h2
        obtain ⟨i1, i2, i3⟩ := cand_ok row K n k _ _ d h3
        rw [← h4]
        refine ⟨by show d.1.length + 1 = k + 1; rw [i1], List.nodup_cons.mpr ⟨fun y => (i3 s y).2 (List.mem_cons_self), i2⟩, fun x hx => ?_⟩
        rcases List.mem_cons.mp hx with y | y
        · rw [y]; exact ⟨List.mem_range.mp h1, z⟩
        · exact ⟨(i3 x y).1, fun v => (i3 x y).2 (List.mem_cons_of_mem _ v)⟩
theorem btr_mem : ∀ (l : List (List (Nat × Nat) × Nat)) (acc : Option (List (Nat × Nat) × Nat)) (c : List (Nat × Nat) × Nat), l.foldl btr acc = some c → acc = some c ∨ c ∈ l
  | [], _, _, e => Or.inl e
  | x :: l, acc, c, e => by
    rcases btr_mem l _ c e with z | z
    · cases acc with
      | none => cases z; exact Or.inr List.mem_cons_self
      | some y =>
        have z2 : (if x.2 < y.2 then some x else some y) = some c := z
        split at z2
        · cases z2; exact Or.inr List.mem_cons_self
        · exact Or.inl z2
    · exact Or.inr (List.mem_cons_of_mem _ z)
theorem pig : ∀ (n : Nat) (l : List Nat), l.Nodup → (∀ x, x ∈ l → x < n) → l.length ≤ n
  | 0, l, _, h => by
    cases l with
    | nil => exact Nat.le_refl _
    | cons a l => exact absurd (h a List.mem_cons_self) (by omega)
  | n + 1, l, nd_, h => by
    by_cases z : n ∈ l
    · have := pig n (l.erase n) (nd_.erase n) (fun x hx => by
        have h1 := (nd_.mem_erase_iff.mp hx)
        have := h x h1.2
        have := h1.1
        omega)
      rw [List.length_erase_of_mem z] at this
      omega
    · have := pig n l nd_ (fun x hx => by
        have := h x hx
        have : x ≠ n := fun y => z (by rw [← y]; exact hx)
        omega)
      omega
theorem pig_all {n : Nat} {l : List Nat} (nd_ : l.Nodup) (h : ∀ x, x ∈ l → x < n) (hl : l.length = n) {s : Nat} (hs : s < n) : s ∈ l := by
  rcases Classical.em (s ∈ l) with z | z
  · exact z
  · have := pig n (s :: l) (List.nodup_cons.mpr ⟨z, nd_⟩) (fun x hx => by
      rcases List.mem_cons.mp hx with y | y
      · rw [y]; exact hs
      · exact h x y)
    rw [List.length_cons] at this
    omega
theorem bst_ok {row K : Nat → Int32} {c : List (Nat × Nat) × Nat} (e : bstC row K = some c) : c.1.length = ix (K 186) ∧ ∀ s, s < ix (K 186) → s ∈ c.1.map Prod.fst := by
  unfold bstC at e
  rcases btr_mem _ _ _ e with z | z
  · cases z
  · obtain ⟨h1, h2, h3⟩ := cand_ok _ _ _ _ _ _ _ z
    exact ⟨h1, fun s hs => pig_all h2 (fun x hx => (h3 x hx).1) (by rw [List.length_map]; exact h1) hs⟩
/-- the row of begins is there, if ships are -/
def LM (n r : Nat) (h g : Hp) : Prop := (∀ j, j < nid h → hI g j = hI h j ∧ hL g j = hL h j ∧ kd g j = kd h j) ∧ (∀ j q, j < nid h → (j ≠ 69 ∨ q ≠ 2) → hR g j q = hR h j q) ∧ hN h ≤ hN g ∧ hN g ≤ hN h + 1 ∧ hS g ≤ hS h + 8640 ∧ RW g ∧ NS ≤ r ∧ (∀ q, q < nid g → ¬ (kd g q).2 = 8640 → q ≠ r) ∧ (0 < n → hR g 69 2 = some r ∧ nd g r 0 8640)
theorem p_mkL {K : Nat → Int32} {h : Hp} {n : Nat} (st : StP K h 1) (en : K 186 = nI n) (hn : n ≤ 6) (rw0 : RW h) (e8 : hI h 69 8 = 0) : ∃ r g, s_Locks_freshen h = s_Locks_freshen_34 g ∧ LM n r h g := by
  have e17 : hI h 1 17 = nI n := (StP_at st (j := 186) (by decide) rfl).trans en
  unfold s_Locks_freshen
  rw [if_pos e8]
  cases hr : hR h 69 2 with
  | some r =>
    obtain ⟨r0, nr⟩ := rw0.2.2.2.1 r hr
    refine ⟨r, h, nq_some _ _ _, fun j hj => ⟨rfl, rfl, rfl⟩, fun j q _ _ => rfl, Nat.le_refl _, by omega, by omega, rw0, r0, fun q _ hq z => ?_, fun _ => ⟨hr, nr⟩⟩
    rw [z, nr.1] at hq
    exact hq rfl
  | none =>
    rw [nq_none, e17]
    by_cases n0 : n = 0
    · rw [if_pos (by rw [n0]; decide)]
      exact ⟨nid h, h, rfl, fun j hj => ⟨rfl, rfl, rfl⟩, fun j q _ _ => rfl, Nat.le_refl _, by omega, by omega, rw0, ns_nid h, fun q hq _ => by omega, fun z => absurd z (by omega)⟩
    · rw [if_neg (by rw [show (0 : Int32) = nI 0 from rfl, nI_leI (by omega) (by omega)]; omega)]
      obtain ⟨w6, w7, w8, w9, d1, d2, d3⟩ := rw0
      have kdl : ∀ j, j < nid h → kd (al h 0 8640) j = kd h j := fun j hj => kd_al_lt hj
      have oth : ∀ j q, j < nid h → (j ≠ 69 ∨ q ≠ 2) → hR (sR (al h 0 8640) 69 2 (some (nid h))) j q = hR h j q := fun j q hj z => by
        rw [hR_sR', if_neg (by omega)]
        show (if j = nid h then fun _ => none else hR h j) q = _
        rw [if_neg (by omega)]
      have mine : hR (sR (al h 0 8640) 69 2 (some (nid h))) 69 2 = some (nid h) := by rw [hR_sR', if_pos ⟨rfl, rfl⟩]
      have nr : nd (sR (al h 0 8640) 69 2 (some (nid h))) (nid h) 0 8640 := ⟨kd_al, Nat.lt_succ_self _⟩
      have ndl : ∀ j t n, nd h j t n → nd (sR (al h 0 8640) 69 2 (some (nid h))) j t n := fun j t n z => ⟨(kdl j z.2).trans z.1, Nat.lt_of_lt_of_le z.2 (Nat.le_succ _)⟩
      have fld : ∀ q, rw1 h (hR h 50 q) 1440 → rw1 (sR (al h 0 8640) 69 2 (some (nid h))) (hR (sR (al h 0 8640) 69 2 (some (nid h))) 50 q) 1440 := fun q z r hr2 => by
        rw [oth 50 q (lt_nid (by decide)) (Or.inl (by decide))] at hr2
        exact ⟨(z r hr2).1, ndl r 0 1440 (z r hr2).2⟩
      have o50 : ∀ q, hR (sR (al h 0 8640) 69 2 (some (nid h))) 50 q = hR h 50 q := fun q => oth 50 q (lt_nid (by decide)) (Or.inl (by decide))
      refine ⟨nid h, sR (al h 0 8640) 69 2 (some (nid h)), rfl, fun j hj => ⟨?_, ?_, kdl j hj⟩, oth, Nat.le_succ _, Nat.le_refl _, Nat.le_refl _, ⟨fld 6 w6, fld 7 w7, fld 8 w8, ?_, ?_, ?_, ?_⟩, ns_nid h, fun q _ hq z => ?_, fun _ => ⟨mine, nr⟩⟩
      · show (if j = nid h then fun _ => 0 else hI h j) = _
        rw [if_neg (by omega)]
      · show (if j = nid h then fun _ => 0 else hL h j) = _
        rw [if_neg (by omega)]
      · intro r e
        rw [mine] at e
        cases e
        exact ⟨ns_nid h, nr⟩
      · rw [o50 6, o50 7, o50 8]; exact d1
      · rw [o50 7, o50 8]; exact d2
      · intro j t r hj ht e
        rw [oth j t (lt_nid (by omega)) (Or.inl (by omega))] at e
        exact ⟨(d3 j t r hj ht e).1, ndl r 101 2 (d3 j t r hj ht e).2⟩
      · rw [z, nr.1] at hq
        exact hq rfl
/-- all ships' begins, then the orders -/
theorem p_fr34 {T : TF} {K : Nat → Int32} {g : Hp} {n r : Nat} (st : StP K g 1) (rg : Rg K) (hrow : ∀ i, i < 1440 → hI g 57 i = td0 T (mk pF K) i) (en : K 186 = nI n) (hn : n ≤ 6) (hr2 : NS ≤ r) (hr : 0 < n → hR g 69 2 = some r ∧ nd g r 0 8640) : ∃ h2, s_Locks_freshen_34 g = some h2 ∧ eqO (fun j => sLu j || decide (j = r)) g h2 ∧ hI h2 69 8 = 1 ∧ lkOK (td0 T (mk pF K)) (mk pS K) h2 := by
  have r0 : 114 ≤ r := hr2
  have loop : ∀ (q s : Nat) (g1 : Hp), s + q = n → eqO (fun j => decide (j = r)) g g1 → SBr T K s r g1 → ∃ h2, lp (fun q : Int32 × Hp => s_Locks_freshen_36 q.1 q.2) (nI s, g1) = some h2 ∧ eqO (fun j => sLu j || decide (j = r)) g h2 ∧ hI h2 69 8 = 1 ∧ lkOK (td0 T (mk pF K)) (mk pS K) h2 := by
    intro q
    induction q with
    | zero =>
      intro s g1 hs E P
      have hs : s = n := by omega
      subst hs
      have st1 : StP K g1 1 := StP_eq E (fun j h1 h2 => decide_eq_false (by omega)) st
      have e17 : hI g1 1 17 = nI s := (StP_at st1 (j := 186) (by decide) rfl).trans en
      have E1 : eqO sLu g1 (sI g1 69 7 (-1)) := eqO_sI (eqO_refl _ _) (by decide)
      obtain ⟨h2, a1, a2, a3, a4, a5⟩ := p_lineUp (T := T) (r := r) rg en hn s 10 [] 0 0 0 none (sI g1 69 7 (-1)) (by omega) (Nat.zero_add _) (StP_eq E1 (fun j h1 h2 => sLu_no (by omega)) st1) (fun z => LUX_eq E1 ⟨by rw [hR_of E.1]; exact (hr z).1, nd_eq E.1 (hr z).2, hr2, P⟩) (PO_0 s) (fun i q e => by cases e) (show hI (sI g1 69 7 (-1)) 69 7 = -1 by rw [hI_sI', if_pos ⟨rfl, rfl⟩]) (fun c e => by cases e) (fun c e => by cases e)
      have e186 : ix (mk pS K 186) = s := by rw [ks_eq (Or.inr (Or.inr rfl)), en]; exact nI_clamp (by omega)
      have ef := fo_bst (td0 T (mk pF K)) (mk pS K)
      rw [e186] at ef
      rw [ef] at a4
      refine ⟨sI h2 69 8 1, lp_inr ?_, eqO_sI (eqO_trans (eqO_mono E (fun j hj => (Bool.or_eq_false_iff.mp hj).2)) (eqO_mono (eqO_trans E1 a2) (fun j hj => (Bool.or_eq_false_iff.mp hj).1))) (by rw [show sLu 69 = true from rfl]; rfl), by rw [hI_sI', if_pos ⟨rfl, rfl⟩], lkOK_BK.mpr (BK_eq (by rw [hI_sI', if_neg (by decide)]) (hI_sI_ne (by decide)) (hI_sI_ne (by decide)) a4)⟩
      show s_Locks_freshen_36 (nI s) g1 = _
      unfold s_Locks_freshen_36
      have a1' : s_Locks_lineUp 0 0 0 0 (sI g1 69 7 (-1)) = some h2 := a1
      rw [e17, if_pos (Int32.le_refl _), a1', Option.bind_some]
    | succ q ih =>
      intro s g1 hs E P
      have st1 : StP K g1 1 := StP_eq E (fun j h1 h2 => decide_eq_false (by omega)) st
      have e17 : hI g1 1 17 = nI n := (StP_at st1 (j := 186) (by decide) rfl).trans en
      obtain ⟨g2, a1, a2, a3⟩ := p_findBegins (T := T) (r := r) st1 rg (fun i hi => by rw [(E.2 57 (decide_eq_false (by omega))).1]; exact hrow i hi) en hn (s := s) (by omega) (by rw [hR_of E.1]; exact (hr (by omega)).1) (nd_eq E.1 (hr (by omega)).2) hr2 P
      have stp : s_Locks_freshen_36 (nI s) g1 = some (.inl (nI (s + 1), g2)) := by
        unfold s_Locks_freshen_36
        rw [e17, if_neg (by rw [nI_leI (by omega) (by omega)]; omega), a1, Option.bind_some, nI_1]
      rw [lp_inl stp]
      exact ih (s + 1) g2 (by omega) (eqO_trans E a2) a3
  exact loop n 0 g (by omega) (eqO_refl _ _) (fun s m hs => absurd hs (by omega))
theorem p_freshenL {τ : Nat → TF} {K : Nat → Int32} {h : Hp} (X : TX τ K h) : ∃ h2, s_Locks_freshen h = some h2 ∧ CQ (tin τ K) K h h2 ∧ StP K h2 1 ∧ lkOK (td0 (tin τ K) (mk pF K)) (mk pS K) h2 := by
  obtain ⟨n, hn, en, -⟩ := Rg_ships X.1.1.2.1
  have st := X.1.1.1
  have rw0 := X.1.1.2.2.1
  have cc := X.1.1.2.2.2
  rcases cc.2.1 with c | ⟨c1, c2⟩
  · obtain ⟨r, g, e1, m1, m2, m3, m4, m5, m6, m7, m8, m9⟩ := p_mkL st en hn rw0 c
    have f : ∀ j, j < 114 → hI g j = hI h j := fun j hj => (m1 j (lt_nid hj)).1
    have stg : StP K g 1 := StP_fr st (fun d hd => f (1 + d) (by omega))
    obtain ⟨h2, b1, b2, b3, b4⟩ := p_fr34 (T := tin τ K) stg X.1.1.2.1 (fun i hi => by rw [f 57 (by decide)]; exact X.2.2 i hi) en hn m7 m9
    have r0 : 114 ≤ r := m7
    have no : ∀ j, (j < 69 ∨ 73 < j) → j ≠ r → (sLu j || decide (j = r)) = false := fun j h1 h3 => by rw [sLu_no h1, decide_eq_false h3]; rfl
    have f2 : ∀ j, j < 114 → (j < 69 ∨ 73 < j) → hI h2 j = hI h j ∧ hL h2 j = hL h j := fun j hj h1 => ⟨((b2.2 j (no j h1 (by omega))).1).trans (m1 j (lt_nid hj)).1, ((b2.2 j (no j h1 (by omega))).2).trans (m1 j (lt_nid hj)).2.1⟩
    have lo : ∀ q, NS ≤ q → q < nid h → ¬ (kd h q).2 = 8640 → hI h2 q = hI h q := fun q h0 h1 h3 => by
      have : 114 ≤ q := h0
      rw [(b2.2 q (no q (by omega) (m8 q (by unfold nid at h1 ⊢; omega) (by rw [(m1 q h1).2.2]; exact h3)))).1]
      exact (m1 q h1).1
    have row : ∀ q r1, rw1 h (hR h 50 q) 1440 → hR h 50 q = some r1 → hI h2 r1 = hI h r1 := fun q r1 z e => lo r1 (z r1 e).1 (z r1 e).2.2 (by rw [(z r1 e).2.1]; decide)
    have o50 : ∀ q, hR h2 50 q = hR h 50 q := fun q => by rw [hR_of b2.1]; exact m2 50 q (lt_nid (by decide)) (Or.inl (by decide))
    refine ⟨h2, e1.trans b1, ⟨⟨fun j hj hs => f2 j hj ?_, fun j hj _ h6 => ?_, fun q h0 h1 => ⟨?_, ?_, fun z => lo q h0 h1 (by omega)⟩, by rw [hN_of b2.1]; exact m3⟩, o50 8, fun r1 e => row 8 r1 rw0.2.2.1 e, RW_eq b2.1 m6, by rw [hN_of b2.1]; exact m4, by rw [hS_of b2.1]; exact m5, ⟨CF_eq (f2 50 (by decide) (by decide)).1 (f2 54 (by decide) (by decide)).1 (f2 57 (by decide) (by decide)).1 (f2 58 (by decide) (by decide)).1 (f2 59 (by decide) (by decide)).1 (f2 60 (by decide) (by decide)).1 (f2 78 (by decide) (by decide)).1 (f2 79 (by decide) (by decide)).1 (f2 56 (by decide) (by decide)).2 (o50 6) (o50 7) (fun r1 e => row 6 r1 rw0.1 e) (fun r1 e => row 7 r1 rw0.2.1 e) cc.1, Or.inr ⟨b3, b4⟩, C74_eq (f2 74 (by decide) (by decide)).1 (f2 77 (by decide) (by decide)).1 rfl cc.2.2⟩⟩, StP_fr st (fun d hd => (f2 (1 + d) (by omega) (by omega)).1), b4⟩
    · unfold sC at hs
      simp only [Bool.and_eq_false_iff, decide_eq_false_iff_not] at hs
      omega
    · rw [hR_of b2.1]
      exact funext fun q => m2 j q (lt_nid hj) (Or.inl h6)
    · rw [kd_of b2.1]; exact (m1 q h1).2.2
    · rw [hR_of b2.1]
      exact funext fun p => m2 q p h1 (Or.inl (by have : 114 ≤ q := h0; omega))
  · refine ⟨h, ?_, QX_CQ X.1 (eqO_refl _ _) X.1, st, c2⟩
    unfold s_Locks_freshen
    rw [c1, if_neg (by decide)]
