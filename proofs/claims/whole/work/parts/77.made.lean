/-! rows made when first wanted -/
theorem hR_sR' (h : Hp) (j k : Nat) (v : Option Nat) (a b : Nat) : hR (sR h j k v) a b = if a = j ∧ b = k then v else hR h a b := by
  by_cases ha : a = j
  · subst ha
    rw [hR_sR]
    by_cases hb : b = k
    · simp [va_up, hb]
    · simp [va_up, hb]
  · rw [hR_sR_ne ha]
    simp [ha]
/-- room, a row that is still to be made counted -/
def pN (k : Nat) (h : Hp) : Nat := hN h + (if (hR h 50 k).isNone then 1 else 0)
def pSl (k : Nat) (h : Hp) : Nat := hS h + (if (hR h 50 k).isNone then 1440 else 0)
theorem pN_le (k : Nat) (h : Hp) : hN h ≤ pN k h ∧ pN k h ≤ hN h + 1 := by
  unfold pN
  split <;> omega
theorem pSl_le (k : Nat) (h : Hp) : hS h ≤ pSl k h ∧ pSl k h ≤ hS h + 1440 := by
  unfold pSl
  split <;> omega
def MD (k r : Nat) (h h2 : Hp) : Prop := (∀ j, j < nid h → hI h2 j = hI h j ∧ hL h2 j = hL h j ∧ kd h2 j = kd h j) ∧ (∀ j q, j < nid h → (j ≠ 50 ∨ q ≠ k) → hR h2 j q = hR h j q) ∧ hR h2 50 k = some r ∧ hN h ≤ hN h2 ∧ hN h2 ≤ pN k h ∧ hS h2 ≤ pSl k h ∧ NS ≤ r ∧ nd h2 r 0 1440 ∧ RW h2
theorem ns_nid (h : Hp) : NS ≤ nid h := Nat.le_add_right _ _
theorem lt_nid {h : Hp} {j : Nat} (hj : j < 114) : j < nid h := Nat.lt_of_lt_of_le hj (ns_nid h)
theorem p_mk {k : Nat} (hk : k = 6 ∨ k = 7 ∨ k = 8) {h : Hp} (rw0 : RW h) : ∃ r h1, s_Water_made (hR h 50 k) h = some (r, h1) ∧ MD k r h (sR h1 50 k (some r)) := by
  obtain ⟨w6, w7, w8, w9, d1, d2, d3⟩ := rw0
  have wk : rw1 h (hR h 50 k) 1440 := by rcases hk with rfl | rfl | rfl <;> assumption
  cases hr : hR h 50 k with
  | some r =>
    obtain ⟨r0, nr⟩ := wk r hr
    have same : hR (sR h 50 k (some r)) = hR h := by
      funext a b
      rw [hR_sR']
      by_cases z : a = 50 ∧ b = k
      · rw [if_pos z, z.1, z.2, hr]
      · rw [if_neg z]
    refine ⟨r, h, rfl, fun j hj => ⟨rfl, rfl, rfl⟩, fun j q _ _ => by rw [same], by rw [same]; exact hr, Nat.le_refl _, (pN_le k h).1, (pSl_le k h).1, r0, nr, ?_⟩
    unfold RW
    rw [same]
    exact ⟨w6, w7, w8, w9, d1, d2, d3⟩
  | none =>
    have n0 := ns_nid h
    have kdl : ∀ j, j < nid h → kd (al h 0 1440) j = kd h j := fun j hj => kd_al_lt hj
    have ndl : ∀ j n, nd h j 0 n → nd (sR (al h 0 1440) 50 k (some (nid h))) j 0 n := fun j n z => ⟨(kdl j z.2).trans z.1, Nat.lt_of_lt_of_le z.2 (Nat.le_succ _)⟩
    have hr50 : ∀ j q, j < nid h → hR (al h 0 1440) j q = hR h j q := fun j q hj => by
      show (if j = nid h then fun _ => none else hR h j) q = _
      rw [if_neg (by omega)]
    have oth : ∀ j q, j < nid h → (j ≠ 50 ∨ q ≠ k) → hR (sR (al h 0 1440) 50 k (some (nid h))) j q = hR h j q := fun j q hj z => by
      rw [hR_sR', if_neg (by omega), hr50 j q hj]
    have mine : hR (sR (al h 0 1440) 50 k (some (nid h))) 50 k = some (nid h) := by rw [hR_sR', if_pos ⟨rfl, rfl⟩]
    have nr : nd (sR (al h 0 1440) 50 k (some (nid h))) (nid h) 0 1440 := ⟨kd_al, Nat.lt_succ_self _⟩
    have l50 : 50 < nid h := lt_nid (by decide)
    have l69 : 69 < nid h := lt_nid (by decide)
    have fld : ∀ (q n : Nat), (q = 6 ∨ q = 7 ∨ q = 8) → rw1 h (hR h 50 q) 1440 → rw1 (sR (al h 0 1440) 50 k (some (nid h))) (hR (sR (al h 0 1440) 50 k (some (nid h))) 50 q) 1440 := fun q n hq z r hr2 => by
      by_cases hqk : q = k
      · subst hqk
        rw [mine] at hr2
        cases hr2
        exact ⟨n0, nr⟩
      · rw [oth 50 q l50 (Or.inr hqk)] at hr2
        exact ⟨(z r hr2).1, ndl r 1440 (z r hr2).2⟩
    have dif : ∀ p q r, (p = 6 ∨ p = 7 ∨ p = 8) → (q = 6 ∨ q = 7 ∨ q = 8) → p ≠ q → (hR h 50 p = some r → hR h 50 q ≠ some r) → hR (sR (al h 0 1440) 50 k (some (nid h))) 50 p = some r → hR (sR (al h 0 1440) 50 k (some (nid h))) 50 q ≠ some r := fun p q r hp hq hpq z e1 e2 => by
      have bound : ∀ q r, (q = 6 ∨ q = 7 ∨ q = 8) → hR h 50 q = some r → r < nid h := fun q r hq e => by
        rcases hq with rfl | rfl | rfl
        · exact (w6 r e).2.2
        · exact (w7 r e).2.2
        · exact (w8 r e).2.2
      by_cases hpk : p = k
      · subst hpk
        rw [mine] at e1
        cases e1
        rw [oth 50 q l50 (Or.inr (Ne.symm hpq))] at e2
        exact Nat.lt_irrefl _ (bound q _ hq e2)
      · rw [oth 50 p l50 (Or.inr hpk)] at e1
        by_cases hqk : q = k
        · subst hqk
          rw [mine] at e2
          cases e2
          exact Nat.lt_irrefl _ (bound p _ hp e1)
        · rw [oth 50 q l50 (Or.inr hqk)] at e2
          exact z e1 e2
    refine ⟨nid h, al h 0 1440, ?_, fun j hj => ⟨?_, ?_, kdl j hj⟩, oth, mine, Nat.le_succ _, ?_, ?_, n0, nr, fld 6 0 (by decide) w6, fld 7 0 (by decide) w7, fld 8 0 (by decide) w8, ?_, ?_, ?_, ?_⟩
    · unfold s_Water_made s_Water_made_13
      rw [nq_none]
      rfl
    · show (if j = nid h then fun _ => 0 else hI h j) = _
      rw [if_neg (by omega)]
    · show (if j = nid h then fun _ => 0 else hL h j) = _
      rw [if_neg (by omega)]
    · unfold pN
      rw [hr]
      exact Nat.le_refl _
    · unfold pSl
      rw [hr]
      exact Nat.le_refl _
    · intro r hr2
      rw [oth 69 2 l69 (Or.inl (by decide))] at hr2
      exact ⟨(w9 r hr2).1, ndl r 8640 (w9 r hr2).2⟩
    · intro r e
      exact ⟨dif 6 7 r (by decide) (by decide) (by decide) (fun z => (d1 r z).1) e, dif 6 8 r (by decide) (by decide) (by decide) (fun z => (d1 r z).2) e⟩
    · intro r e
      exact dif 7 8 r (by decide) (by decide) (by decide) (fun z => d2 r z) e
    · intro j t r hj ht e
      rw [oth j t (lt_nid (by omega)) (Or.inl (by omega))] at e
      obtain ⟨z1, z2⟩ := d3 j t r hj ht e
      exact ⟨z1, (kdl r z2.2).trans z2.1, Nat.lt_of_lt_of_le z2.2 (Nat.le_succ _)⟩
/-- a row made, if it has to be, and a day's flow run into it -/
def MF (τ : Nat → TF) (K : Nat → Int32) (k r : Nat) (h h2 : Hp) : Prop := (∀ j, j < nid h → (j < 50 ∨ 54 < j) → j ≠ r → hI h2 j = hI h j ∧ hL h2 j = hL h j) ∧ Fr sC h h2 ∧ (∀ q, q ≠ k → hR h2 50 q = hR h 50 q) ∧ hR h2 50 k = some r ∧ hN h2 ≤ pN k h ∧ hS h2 ≤ pSl k h ∧ NS ≤ r ∧ nd h2 r 0 1440 ∧ RW h2 ∧ LW τ K h2 1 ∧ StP K h2 1 ∧ hI h2 50 9 = 1 ∧ TdOK (mk pF K) h2 ∧ ∀ q, q ≠ 9 → hI h2 50 q = hI h 50 q
theorem p_mkrun {τ : Nat → TF} {K W : Nat → Int32} {h : Hp} {k : Nat} {gl tb : Int32} (hk : k = 6 ∨ k = 7 ∨ k = 8) (st : StP K h 1) (rg : Rg K) (lw : LW τ K h 1) (rw0 : RW h) (c9 : C9 (mk pF K) h) (hW : ∀ i, i < 24 → hI h 55 i = W i) (hWb : ∀ i, i < 24 → na (W i) ≤ 40) (hg : na (1013 - gl) ≤ 100) (htb : na tb ≤ 20) :
    ∃ r h1 h2, s_Water_made (hR h 50 k) h = some (r, h1) ∧ hR (sR h1 50 k (some r)) 50 k = some r ∧ hI (sR h1 50 k (some r)) 4 = hI h 4 ∧ s_Water_run r gl tb (sR h1 50 k (some r)) = some h2 ∧ MF τ K k r h h2 ∧ ∀ i, i < 1440 → hI h2 r i = fw (tin τ K) (mk pF K) W gl tb i := by
  obtain ⟨r, h1, e1, m1, m2, m3, m4, m5, m6, m7, m8, m9⟩ := p_mk hk rw0
  have F : Fr sC h (sR h1 50 k (some r)) := ⟨fun j hj _ => ⟨(m1 j (lt_nid hj)).1, (m1 j (lt_nid hj)).2.1⟩, fun j hj h5 _ => funext fun q => m2 j q (lt_nid hj) (Or.inl h5), fun q hq hl => ⟨(m1 q hl).2.2, funext fun p => m2 q p hl (Or.inl (by have : 114 ≤ q := hq; omega)), fun _ => (m1 q hl).1⟩, m4⟩
  have f : ∀ j, j < 114 → hI (sR h1 50 k (some r)) j = hI h j := fun j hj => (m1 j (lt_nid hj)).1
  have st2 : StP K (sR h1 50 k (some r)) 1 := StP_fr st (fun d hd => f (1 + d) (by omega))
  have lw2 : LW τ K (sR h1 50 k (some r)) 1 := LW_Fr F (by decide) lw rfl (fun _ _ => rfl)
  obtain ⟨h2, r1, r2, r3, r4, r5, r6⟩ := p_run (gl := gl) (tb := tb) (W := W) st2 rg lw2 (C9_node (f 50 (by decide)) (f 54 (by decide)) c9) m8 (Or.inr m7) (fun i hi => by rw [f 55 (by decide)]; exact hW i hi) hWb hg htb
  have r114 : 114 ≤ r := m7
  refine ⟨r, h1, h2, e1, m3, f 4 (by decide), r1, ⟨fun j hj h5 hjr => ⟨((r3.2 j (sRn_no h5 hjr)).1).trans (m1 j hj).1, ((r3.2 j (sRn_no h5 hjr)).2).trans (m1 j hj).2.1⟩, ?_, fun q hq => by rw [hR_of r3.1]; exact m2 50 q (lt_nid (by decide)) (Or.inr hq), by rw [hR_of r3.1]; exact m3, by rw [hN_of r3.1]; exact m5, by rw [hS_of r3.1]; exact m6, m7, nd_eq r3.1 m8, RW_eq r3.1 m9, ?_, StP_eq r3 (fun j h1 h2 => sRn_no (by omega) (by omega)) st2, r4, r5, fun q hq => by rw [r6 q hq, f 50 (by decide)]⟩, r2⟩
  · refine Fr_trans F ⟨fun j hj hs => r3.2 j (sRn_no ?_ (by omega)), fun j _ _ _ => by rw [hR_of r3.1], fun q hq hl => ⟨kd_of r3.1 q, by rw [hR_of r3.1], fun z => (r3.2 q (sRn_no (by have : 114 ≤ q := hq; omega) ?_)).1⟩, by rw [hN_of r3.1]; exact Nat.le_refl _⟩
    · unfold sC at hs
      simp only [Bool.and_eq_false_iff, decide_eq_false_iff_not] at hs
      omega
    · rintro rfl
      rw [m8.1] at z
      exact absurd z (by decide)
  · refine LW_eq r3 (fun j hj z => sRn_no (by have : 114 ≤ j := hj; omega) ?_) lw2
    rintro rfl
    rw [m8.1] at z
    exact absurd z (by decide)
/-- what is worked out besides -/
theorem MF_58 {τ : Nat → TF} {K : Nat → Int32} {k r : Nat} {h h2 : Hp} (M : MF τ K k r h h2) {j : Nat} (h1 : j < 50 ∨ 54 < j) (hj : j < 114) : hI h2 j = hI h j := (M.1 j (lt_nid hj) h1 (by have : 114 ≤ r := M.2.2.2.2.2.2.1; omega)).1
theorem MF_row {τ : Nat → TF} {K : Nat → Int32} {k r : Nat} {h h2 : Hp} (M : MF τ K k r h h2) (rw0 : RW h) {q s : Nat} (hq : q = 6 ∨ q = 7 ∨ q = 8) (hk : k = 6 ∨ k = 7 ∨ k = 8) (hqk : q ≠ k) (e : hR h 50 q = some s) : hI h2 s = hI h s ∧ hR h2 50 q = some s := by
  have e2 : hR h2 50 q = some s := (M.2.2.1 q hqk).trans e
  have rk := M.2.2.2.1
  obtain ⟨w6, w7, w8, w9, d1, d2, -⟩ := M.2.2.2.2.2.2.2.2.1
  have hs : s ≠ r := by
    rintro rfl
    rcases hq with rfl | rfl | rfl <;> rcases hk with rfl | rfl | rfl
    · exact hqk rfl
    · exact (d1 s e2).1 rk
    · exact (d1 s e2).2 rk
    · exact (d1 s rk).1 e2
    · exact hqk rfl
    · exact d2 s e2 rk
    · exact (d1 s rk).2 e2
    · exact d2 s rk e2
    · exact hqk rfl
  have lts : NS ≤ s ∧ s < nid h := by
    rcases hq with rfl | rfl | rfl
    · exact ⟨(rw0.1 s e).1, (rw0.1 s e).2.2⟩
    · exact ⟨(rw0.2.1 s e).1, (rw0.2.1 s e).2.2⟩
    · exact ⟨(rw0.2.2.1 s e).1, (rw0.2.2.1 s e).2.2⟩
  exact ⟨(M.1 s lts.2 (Or.inr (by have : 114 ≤ s := lts.1; omega)) hs).1, e2⟩
theorem MF_C10 {τ : Nat → TF} {T : TF} {K : Nat → Int32} {k r : Nat} {h h2 : Hp} (M : MF τ K k r h h2) (c : C10 T (mk pF K) h) : C10 T (mk pF K) h2 := by
  unfold C10
  rw [M.2.2.2.2.2.2.2.2.2.2.2.2.2 10 (by decide), MF_58 M (by decide) (show 57 < 114 by decide), M.2.2.2.2.2.2.2.2.2.2.2.1]
  rcases c with c | ⟨a, -, b⟩
  · exact Or.inl c
  · exact Or.inr ⟨a, rfl, b⟩
theorem MF_C11 {τ : Nat → TF} {T : TF} {K : Nat → Int32} {k r : Nat} {h h2 : Hp} (M : MF τ K k r h h2) (rw0 : RW h) (hk : k = 7 ∨ k = 8) (c : C11 T (mk pF K) h) : C11 T (mk pF K) h2 := by
  unfold C11
  rw [M.2.2.2.2.2.2.2.2.2.2.2.2.2 11 (by decide)]
  rcases c with c | ⟨a, s, b, d⟩
  · exact Or.inl c
  · obtain ⟨e1, e2⟩ := MF_row M rw0 (q := 6) (by decide) (Or.inr hk) (by omega) b
    exact Or.inr ⟨a, s, e2, by rw [e1]; exact d⟩
theorem MF_56 {τ : Nat → TF} {K : Nat → Int32} {k r : Nat} {h h2 : Hp} (M : MF τ K k r h h2) : hL h2 56 = hL h 56 := (M.1 56 (lt_nid (by decide)) (by decide) (by have : 114 ≤ r := M.2.2.2.2.2.2.1; omega)).2
theorem MF_C12 {τ : Nat → TF} {T : TF} {K : Nat → Int32} {k r : Nat} {h h2 : Hp} (M : MF τ K k r h h2) (rw0 : RW h) (hk : k = 6 ∨ k = 8) (c : C12 T (mk pF K) h) : C12 T (mk pF K) h2 := by
  unfold C12
  rw [M.2.2.2.2.2.2.2.2.2.2.2.2.2 12 (by decide), MF_56 M]
  rcases c with c | ⟨n, a1, a2, a3, s, b, d⟩
  · exact Or.inl c
  · obtain ⟨e1, e2⟩ := MF_row M rw0 (q := 7) (by decide) (by omega) (by omega) b
    exact Or.inr ⟨n, a1, a2, a3, s, e2, by rw [e1]; exact d⟩
theorem MF_C56 {τ : Nat → TF} {T : TF} {K : Nat → Int32} {k r : Nat} {h h2 : Hp} (M : MF τ K k r h h2) (c : C56 T (mk pF K) h) : C56 T (mk pF K) h2 := by
  unfold C56
  rw [MF_56 M]
  exact c
theorem MF_C13 {τ : Nat → TF} {T : TF} {K : Nat → Int32} {k r : Nat} {h h2 : Hp} (M : MF τ K k r h h2) (c : C13 T (mk pF K) h) : C13 T (mk pF K) h2 := by
  unfold C13
  rw [M.2.2.2.2.2.2.2.2.2.2.2.2.2 13 (by decide)]
  exact c
/-- winds set -/
theorem QX_55 {τ : Nat → TF} {K : Nat → Int32} {h h1 : Hp} (X : QX τ K h) (E : eqO (fun j => decide (j = 55)) h h1) : QX τ K h1 := by
  obtain ⟨⟨st, rg, rw0, cc⟩, lw⟩ := X
  have f : ∀ j, j ≠ 55 → hI h1 j = hI h j := fun j hj => (E.2 j (decide_eq_false hj)).1
  have hr := hR_of E.1
  refine ⟨⟨StP_eq E (fun j h1 h2 => decide_eq_false (by omega)) st, rg, RW_eq E.1 rw0, CF_eq (f 50 (by decide)) (f 54 (by decide)) (f 57 (by decide)) (f 58 (by decide)) (f 59 (by decide)) (f 60 (by decide)) (f 78 (by decide)) (f 79 (by decide)) (E.2 56 (by decide)).2 (by rw [hr]) (by rw [hr]) (fun r z => f r (by have : 114 ≤ r := (rw0.1 r z).1; omega)) (fun r z => f r (by have : 114 ≤ r := (rw0.2.1 r z).1; omega)) cc.1, C69_eq (f 69 (by decide)) (f 72 (by decide)) (f 73 (by decide)) rfl rfl cc.2.1, C74_eq (f 74 (by decide)) (f 77 (by decide)) rfl cc.2.2⟩, LW_eq E (fun j hj _ => decide_eq_false (by have : 114 ≤ j := hj; omega)) lw⟩
