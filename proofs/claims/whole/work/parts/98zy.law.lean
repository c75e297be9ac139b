/-! the law: read whole -/
theorem rf_out {h : Hp} {j : Nat} (hj : NS ≤ j) (k : Nat) : rf h j k = hR h j k := by
  unfold rf
  rw [rs_out hj k]
def ALn (m : Nat) (h h2 : Hp) : Prop := (∀ j, j < nid h → hI h2 j = hI h j ∧ hL h2 j = hL h j ∧ hR h2 j = hR h j ∧ kd h2 j = kd h j) ∧ hN h2 = hN h + 1 ∧ hS h2 = hS h + m
theorem ALn_al (h : Hp) (t n : Nat) : ALn n h (al h t n) := by
  refine ⟨fun j hj => ⟨?_, ?_, ?_, kd_al_lt hj⟩, rfl, rfl⟩
  · show (if j = nid h then fun _ => 0 else hI h j) = _
    rw [if_neg (by omega)]
  · show (if j = nid h then fun _ => 0 else hL h j) = _
    rw [if_neg (by omega)]
  · show (if j = nid h then fun _ => none else hR h j) = _
    rw [if_neg (by omega)]
theorem nid_1 {h h2 : Hp} (e : hN h2 = hN h + 1) : nid h2 = nid h + 1 := by unfold nid; rw [e]; omega
theorem p_copyOf {h : Hp} {j nj m : Nat} (hj : nd h j 0 nj) (hm : m ≤ nj) (hn : nj ≤ 400) : ∃ h2, s_Arr_copyOf j (nI m) h = some (nid h, h2) ∧ ALn m h h2 ∧ nd h2 (nid h) 0 m ∧ ∀ i, i < m → hI h2 (nid h) i = hI h j i := by
  unfold s_Arr_copyOf
  rw [ak_some hj, ln_of hj]
  by_cases z : m = nj
  · rw [if_pos (by rw [z]), ak_some hj]
    have c := ALn_al h 0 (ln h j)
    rw [ln_of hj] at c
    refine ⟨clI h j, rfl, ⟨fun i hi => ⟨?_, (c.1 i hi).2.1, (c.1 i hi).2.2.1, ?_⟩, rfl, ?_⟩, ?_, fun i hi => ?_⟩
    · show (if i = nid h then hI h j else hI h i) = _
      rw [if_neg (by omega)]
    · rw [kd_clI]; exact kd_al_lt hi
    · show hS h + ln h j = _
      rw [ln_of hj, z]
    · have := nd_clI (h := h) (j := j)
      rw [ln_of hj] at this
      rw [z]; exact this
    · show (if nid h = nid h then hI h j else _) i = _
      rw [if_pos rfl]
  · have c := ALn_al h 0 m
    have hjl : j < nid h := hj.2
    have ndj : nd (al h 0 m) j 0 nj := ⟨by rw [(c.1 j hjl).2.2.2]; exact hj.1, by rw [nid_1 c.2.1]; omega⟩
    have ndn : nd (al h 0 m) (nid h) 0 m := ⟨kd_al, by rw [nid_1 c.2.1]; omega⟩
    have em : z_min (nI nj) (nI m) = nI m := by rw [z_min_nI (by omega) (by omega), Nat.min_eq_right (by omega)]
    have e1 : ix (nI m) = m := nI_clamp (by omega)
    rw [if_neg (by rw [nI_eq (by omega) (by omega)]; exact z), nl, if_neg (by rintro (u | u); exact nI_pos (by omega) u; rw [nI_clamp (by omega)] at u; omega), e1, ak_some ndj, ln_of ndj, em]
    have cyk : ∀ F : Option (Nat × Hp), cy (al h 0 m) j 0 (nid h) 0 (nI m) F = F := fun F => by
      unfold cy
      rw [if_pos]
      refine ⟨⟨ndj.2, by rw [ndj.1]⟩, ⟨ndn.2, by rw [ndn.1]⟩, by decide, by decide, nI_pos (by omega), ?_, ?_⟩
      · rw [e1, ln_of ndj, show ix 0 = 0 by decide]; omega
      · rw [e1, ln_of ndn, show ix 0 = 0 by decide]; omega
    rw [cyk]
    refine ⟨_, rfl, ⟨fun i hi => ⟨?_, (c.1 i hi).2.1, (c.1 i hi).2.2.1, (c.1 i hi).2.2.2⟩, c.2.1, c.2.2⟩, ndn, fun i hi => ?_⟩
    · funext k
      rw [hI_cpI _ rfl (by omega), if_neg (by omega), (c.1 i hi).1]
    · rw [hI_cpI _ rfl (by omega), if_pos ⟨rfl, hi⟩, (c.1 j hjl).1]
def MKl (h h2 : Hp) (s M : Nat) : Prop := (∀ j, j < nid h → hI h2 j = hI h j ∧ hL h2 j = hL h j ∧ hR h2 j = hR h j ∧ kd h2 j = kd h j) ∧ hN h2 = hN h + 3 ∧ hS h2 = hS h + 2 + s + 4 * M ∧ nd h2 (nid h) 101 2 ∧ rf h2 (nid h) 0 = some (nid h + 1) ∧ rf h2 (nid h) 1 = some (nid h + 2) ∧ nd h2 (nid h + 1) 0 s ∧ nd h2 (nid h + 2) 0 (4 * M) ∧ (∀ i, i < s → hI h2 (nid h + 1) i = hI h 48 i) ∧ ∀ i, i < 4 * M → hI h2 (nid h + 2) i = hI h 49 i
theorem c_make {h : Hp} {s M : Nat} (e3 : hI h 47 3 = nI s) (e4 : hI h 47 4 = nI (4 * M)) (hs : s ≤ 400) (hM : M ≤ 12) : ∃ h2, ((s_Arr_copyOf 48 (hI (al h 101 2) 47 3) (al h 101 2)).bind fun u7 => (s_Arr_copyOf 49 (hI u7.2 47 4) u7.2).bind fun u8 => (s_Law_init (nid h) u7.1 u8.1 u8.2).bind fun u9 => (some (.inr (some (nid h), u9)) : Option ((Int32 × Hp) ⊕ ((Option Nat) × Hp)))) = some (.inr (some (nid h), h2)) ∧ MKl h h2 s M := by
  have cA := ALn_al h 101 2
  have n0 := ns_nid h
  have n1 : 114 ≤ nid h := n0
  have nA := nid_1 cA.2.1
  have l47 : 47 < nid h := by omega
  have l48 : 48 < nid h := by omega
  have l49 : 49 < nid h := by omega
  obtain ⟨hB, b1, b2, b3, b4⟩ := p_copyOf (h := al h 101 2) (j := 48) (nj := 400) (m := s) (nd_of (by decide) rfl) hs (by decide)
  have nB := nid_1 b2.2.1
  obtain ⟨hC, c1, c2, c3, c4⟩ := p_copyOf (h := hB) (j := 49) (nj := 48) (m := 4 * M) (nd_of (by decide) rfl) (by omega) (by decide)
  have nC := nid_1 c2.2.1
  have oldB : ∀ j, j < nid h → hI hB j = hI h j ∧ hL hB j = hL h j ∧ hR hB j = hR h j ∧ kd hB j = kd h j := fun j hj => by
    obtain ⟨x1, x2, x3, x4⟩ := b2.1 j (by omega)
    obtain ⟨y1, y2, y3, y4⟩ := cA.1 j hj
    exact ⟨x1.trans y1, x2.trans y2, x3.trans y3, x4.trans y4⟩
  have oldC : ∀ j, j < nid h → hI hC j = hI h j ∧ hL hC j = hL h j ∧ hR hC j = hR h j ∧ kd hC j = kd h j := fun j hj => by
    obtain ⟨x1, x2, x3, x4⟩ := c2.1 j (by omega)
    obtain ⟨y1, y2, y3, y4⟩ := oldB j hj
    exact ⟨x1.trans y1, x2.trans y2, x3.trans y3, x4.trans y4⟩
  have kr : kd hC (nid h) = (101, 2) := by rw [(c2.1 (nid h) (by omega)).2.2.2, (b2.1 (nid h) (by omega)).2.2.2]; exact kd_al
  have nr : nd hC (nid h) 101 2 := ⟨kr, by omega⟩
  have nr2 : nd (sR hC (nid h) 0 (some (nid h + 1))) (nid h) 101 2 := nr
  refine ⟨sR (sR hC (nid h) 0 (some (nid h + 1))) (nid h) 1 (some (nid h + 2)), ?_, fun j hj => ?_, ?_, ?_, nr, ?_, ?_, ?_, ?_, fun i hi => ?_, fun i hi => ?_⟩
  · rw [(cA.1 47 l47).1, e3, b1, Option.bind_some]
    show ((s_Arr_copyOf 49 (hI hB 47 4) hB).bind _) = _
    rw [(oldB 47 l47).1, e4, c1, Option.bind_some, nA]
    show ((s_Law_init (nid h) (nid h + 1) (nid hB) hC).bind _) = _
    unfold s_Law_init
    rw [ak_some nr, ak_some nr2, Option.bind_some, nB, nA]
  · obtain ⟨x1, x2, x3, x4⟩ := oldC j hj
    refine ⟨x1, x2, ?_, x4⟩
    rw [hR_sR_ne (by omega), hR_sR_ne (by omega)]
    exact x3
  · show hN hC = _
    rw [c2.2.1, b2.2.1, cA.2.1]
  · show hS hC = _
    rw [c2.2.2, b2.2.2, cA.2.2]
  · rw [rf_out n0, hR_sR', if_neg (by omega), hR_sR', if_pos ⟨rfl, rfl⟩]
  · rw [rf_out n0, hR_sR', if_pos ⟨rfl, rfl⟩]
  · refine ⟨?_, ?_⟩
    · show kd hC (nid h + 1) = _
      rw [(c2.1 (nid h + 1) (by omega)).2.2.2, ← nA]
      exact b3.1
    · show nid h + 1 < nid hC
      omega
  · refine ⟨?_, ?_⟩
    · show kd hC (nid h + 2) = _
      rw [show nid h + 2 = nid hB by omega]
      exact c3.1
    · show nid h + 2 < nid hC
      omega
  · show hI hC (nid h + 1) i = _
    rw [(c2.1 (nid h + 1) (by omega)).1, ← nA, b4 i hi, (cA.1 48 l48).1]
  · show hI hC (nid h + 2) i = _
    rw [show nid h + 2 = nid hB by omega, c4 i hi, (oldB 49 l49).1]
theorem CLF_congr {y : Nat → Nat} {n N s i M : Nat} {c c2 cb cb2 : Nat → Int32} {cls : Nat → Nat × ((Nat → Int32) → Option Int32)} {kk : Nat → Nat} {s2 : Nat} (H : CLF y n N c cb s cls kk i) (hi : i < M) (hs : s ≤ s2) (e1 : ∀ j, j < s → c2 j = c j) (e2 : ∀ j, j < 4 * M → cb2 j = cb j) : CLF y n N c2 cb2 s2 cls kk i := by
  obtain ⟨fr, se, te, c1, c2', c3, c4, c5, c6, c7, c8, c9, c10, c11, c12, c13⟩ := H
  exact ⟨fr, se, te, by rw [e2 _ (by omega)]; exact c1, by rw [e2 _ (by omega)]; exact c2', by rw [e2 _ (by omega)]; exact c3, by rw [e2 _ (by omega)]; exact c4, c5, c6, by omega, c8, c9, c10, c11, c12, CLB_congr c13 c6 (fun j hj => e1 j (by omega))⟩
def reF (k : Nat) : Bool := !(decide (k = 11) || decide (k = 16) || decide (k = 17) || decide (k = 18))
theorem rd_re (k : Nat) (h : reF k = true) : rdF k = true := by
  unfold reF at h
  unfold rdF
  simp only [Bool.not_eq_true', Bool.or_eq_false_iff, decide_eq_false_iff_not] at h ⊢
  exact ⟨⟨h.1.1.2, h.1.2⟩, h.2⟩
def FRe (g g2 : Hp) : Prop := eqO sAs g g2 ∧ m84 reF g g2
theorem FRe_of {g g2 : Hp} (F : FRd g g2) : FRe g g2 := ⟨F.1, m84_mono F.2 rd_re⟩
theorem FRe_trans {h h1 h2 : Hp} (a : FRe h h1) (b : FRe h1 h2) : FRe h h2 := ⟨eqO_trans a.1 b.1, m84_trans a.2 b.2⟩
/-- a law read, by both: its clauses, and what each tells -/
def LAW (y : Nat → Nat) (n N : Nat) (h h2 : Hp) : Prop := ∃ M s cls kk, M ≤ 12 ∧ s ≤ 400 ∧ kk 0 = 0 ∧ kk M = N + 1 ∧ (∀ i, i < M → CLF y n N (hI h2 (nid h + 1)) (hI h2 (nid h + 2)) s cls kk i) ∧ hN h2 = hN h + 3 ∧ hS h2 ≤ hS h + 450 ∧ nd h2 (nid h) 101 2 ∧ rf h2 (nid h) 0 = some (nid h + 1) ∧ rf h2 (nid h) 1 = some (nid h + 2) ∧ nd h2 (nid h + 1) 0 s ∧ nd h2 (nid h + 2) 0 (4 * M) ∧ hI h2 47 9 = -1 ∧ ∀ j, j < nid h → kd h2 j = kd h j ∧ hR h2 j = hR h j ∧ (sR3 j = false → hI h2 j = hI h j ∧ hL h2 j = hL h j)
def LWo (y : Nat → Nat) (n N : Nat) (h g : Hp) (X : Option (Option Nat × Hp)) (Y : Option (Int32 × Hp)) : Prop := ∃ o h2 r g2, X = some (o, h2) ∧ Y = some (r, g2) ∧ FRe g g2 ∧ ((o = none ∧ r = 0 ∧ eqO sR3 h h2 ∧ ∃ p, p ≤ 400 ∧ hI h2 47 9 = nI p ∧ hI g2 84 11 = nI p) ∨ (o = some (nid h) ∧ r = 1 ∧ hI g2 84 11 = -1 ∧ LAW y n N h h2))
theorem LAW_from {y : Nat → Nat} {n N : Nat} {h h1 h2 : Hp} (E : eqO sR3 h h1) (L : LAW y n N h1 h2) : LAW y n N h h2 := by
  obtain ⟨M, s, cls, kk, l1, l2, l3, l4, l5, l6, l7, l8, l9, l10, l11, l12, l13, l14⟩ := L
  rw [nid_of E.1] at l5 l8 l9 l10 l11 l12 l14
  rw [hN_of E.1] at l6
  rw [hS_of E.1] at l7
  refine ⟨M, s, cls, kk, l1, l2, l3, l4, l5, l6, l7, l8, l9, l10, l11, l12, l13, fun j hj => ?_⟩
  obtain ⟨x1, x2, x3⟩ := l14 j hj
  exact ⟨x1.trans (kd_of E.1 j), x2.trans (by rw [hR_of E.1]), fun z => ⟨(x3 z).1.trans (E.2 j z).1, (x3 z).2.trans (E.2 j z).2⟩⟩
theorem LWo_from {y : Nat → Nat} {n N : Nat} {h g h1 g1 : Hp} {X : Option (Option Nat × Hp)} {Y : Option (Int32 × Hp)} (E : eqO sR3 h h1) (F : FRe g g1) (L : LWo y n N h1 g1 X Y) : LWo y n N h g X Y := by
  obtain ⟨o, h2, r, g2, l1, l2, l3, l4⟩ := L
  refine ⟨o, h2, r, g2, l1, l2, FRe_trans F l3, ?_⟩
  rcases l4 with ⟨a1, a2, a3, a4⟩ | ⟨a1, a2, a3, a4⟩
  · exact Or.inl ⟨a1, a2, eqO_trans E a3, a4⟩
  · rw [nid_of E.1] at a1
    exact Or.inr ⟨a1, a2, a3, LAW_from E a4⟩
/-- the reference, once a fault is found -/
theorem BD_reads {g : Hp} {p : Nat} (hp : p ≤ 400) (e : hI g 84 18 = nI p) (v : Int32) : lp (fun q : Int32 × Hp => s_Mod_reads_34 q.1 q.2) (v, g) = some (0, sI g 84 11 (nI p)) := by
  have B : BDd g := ⟨p, hp, e⟩
  refine lp_inr ?_
  show s_Mod_reads_34 v g = _
  unfold s_Mod_reads_34 s_Mod_reads_95 s_Mod_sign
  rw [Option.bind_some, BD_takes B, Option.bind_some, if_pos (show ((0 : Int32), g).1 = 0 from rfl)]
  show ((s_Mod_fine g).bind _) = _
  rw [p_fine0 e hp, Option.bind_some, if_pos rfl, e, p_fine0 (p := p) (by rw [hI_sI', if_neg (by omega)]; exact e) hp, Option.bind_some, bz_0]
  rfl
theorem j_law1 {y : Nat → Nat} {n N m k s pt : Nat} {h g : Hp} {cls : Nat → Nat × ((Nat → Int32) → Option Int32)} {kk : Nat → Nat} (hm : m < 12) (S : SC y n k s pt h) (R : SR y n N k pt g) (hs : s ≤ k) (e4 : hI h 47 4 = nI (4 * m)) (e15 : hI g 84 15 = nI N) (k0 : kk 0 = 0) (km : kk m = k) (F : ∀ i, i < m → CLF y n N (hI h 48) (hI h 49) s cls kk i)
    (NX : m + 1 < 12 → ∀ (k s pt : Nat) (h g : Hp) (cls : Nat → Nat × ((Nat → Int32) → Option Int32)) (kk : Nat → Nat), SC y n k s pt h → SR y n N k pt g → s ≤ k → hI h 47 4 = nI (4 * (m + 1)) → hI g 84 15 = nI N → kk 0 = 0 → kk (m + 1) = k → (∀ i, i < m + 1 → CLF y n N (hI h 48) (hI h 49) s cls kk i) → LWo y n N h g (lp (fun q : Int32 × Hp => s_Reader_readLaw_31 q.1 q.2) (nI (m + 1), h)) ((s_Mod_readClause g).bind fun u2 => lp (fun q : Int32 × Hp => s_Mod_reads_34 q.1 q.2) (nI (m + 1 + 1), u2))) :
    LWo y n N h g (lp (fun q : Int32 × Hp => s_Reader_readLaw_31 q.1 q.2) (nI m, h)) ((s_Mod_readClause g).bind fun u2 => lp (fun q : Int32 × Hp => s_Mod_reads_34 q.1 q.2) (nI (m + 1), u2)) := by
  obtain ⟨hn, hy⟩ := SC_y S
  obtain ⟨b, h2, g2, b1, b2, b3, b4, b5⟩ := j_clause S R hs hm e4
  rw [b2, Option.bind_some]
  have c31 : s_Reader_readLaw_31 (nI m) h = if b = 0 then some (.inr (none, h2)) else if hI h2 47 6 = 0 then ((s_Arr_copyOf 48 (hI (al h2 101 2) 47 3) (al h2 101 2)).bind fun u7 => (s_Arr_copyOf 49 (hI u7.2 47 4) u7.2).bind fun u8 => (s_Law_init (nid h2) u7.1 u8.1 u8.2).bind fun u9 => some (.inr (some (nid h2), u9))) else (s_Reader_isOther 59 h2).bind fun u3 => if u3 = 0 then (s_Reader_fail h2).bind fun u5 => some (.inr (none, u5.2)) else (s_Reader_advance h2).bind fun u4 => some (.inl (nI (m + 1), u4)) := by
    unfold s_Reader_readLaw_31
    rw [if_neg (by rw [show (12 : Int32) = nI 12 from rfl, nI_leI (by decide) (by omega)]; omega), b1, Option.bind_some, lt_eq, nI_1]
  rcases b5 with ⟨e0, fl⟩ | ⟨e1, k2, s2, pt2, hd, se, E, q1, q2, q3, q4, S2, R2, q5, q6, q7, q8, q9, q10, q11, q12, q13, q14⟩
  · rw [if_pos e0] at c31
    obtain ⟨p, p1, p2, p3⟩ := fl
    exact ⟨none, h2, 0, sI g2 84 11 (nI p), lp_inr c31, BD_reads p1 p3 _, ⟨eqO_sI b4.1 (by decide), m84_sI (m84_mono b4.2 rd_re) (Or.inr (by decide))⟩, Or.inl ⟨rfl, rfl, b3, p, p1, p2, by rw [hI_sI', if_pos ⟨rfl, rfl⟩]⟩⟩
  · rw [if_neg (by rw [e1]; exact i10), S2.1.2.1] at c31
    have kN2 := R2.2.1
    have NN := R2.1.1
    have fb2 := (tF_b (y := y) (n := n) k2).1
    have e15' : hI g2 84 15 = nI N := by rw [b4.2 15 (by decide)]; exact e15
    obtain ⟨cls2, ec1, ec2⟩ : ∃ cls2 : Nat → Nat × ((Nat → Int32) → Option Int32), (∀ i, i ≠ m → cls2 i = cls i) ∧ cls2 m = (hd, E) := ⟨fun i => if i = m then (hd, E) else cls i, fun i hi => if_neg hi, if_pos rfl⟩
    obtain ⟨kk2, ek1, ek2⟩ : ∃ kk2 : Nat → Nat, (∀ i, i ≠ m + 1 → kk2 i = kk i) ∧ kk2 (m + 1) = k2 + 1 := ⟨fun i => if i = m + 1 then k2 + 1 else kk i, fun i hi => if_neg hi, if_pos rfl⟩
    have CLm : ∀ c cb s3, s2 ≤ s3 → (∀ j, j < s2 → c j = hI h2 48 j) → (∀ j, j < 4 * m + 4 → cb j = hI h2 49 j) → ∀ i, i < m + 1 → CLF y n N c cb s3 cls2 kk2 i := fun c cb s3 hs3 ec eb i hi => by
      rcases (show i < m ∨ i = m by omega) with z | z
      · obtain ⟨fr, se', te, c1, c2, c3, c4, c5, c6, c7, c8, c9, c10, c11, c12, c13⟩ := CLF_congr (M := m) (s2 := s3) (c2 := c) (cb2 := cb) (F i z) z (by omega) (fun j hj => by rw [ec j (by omega), q5 j hj]) (fun j hj => by rw [eb j (by omega), q7 j hj])
        unfold CLF
        rw [ec1 i (by omega), ek1 i (by omega), ek1 (i + 1) (by omega)]
        exact ⟨fr, se', te, c1, c2, c3, c4, c5, c6, c7, c8, c9, c10, c11, c12, c13⟩
      · unfold CLF
        rw [z, ec2, ek1 m (by omega), ek2, km]
        have kN3 : k < N := by omega
        refine ⟨s, se, s2, by rw [eb _ (by omega)]; exact q10, by rw [eb _ (by omega)]; exact q11, by rw [eb _ (by omega)]; exact q12, by rw [eb _ (by omega)]; exact q13, q2, q3, hs3, q8, q9, kN3, by omega, by omega, CLB_congr q14 q3 (fun j hj => ec j hj)⟩
    have kk0 : kk2 0 = 0 := by rw [ek1 0 (by omega)]; exact k0
    have kkm : kk2 (m + 1) = k2 + 1 := ek2
    have pt59 := p_takes (c := 159) R2 hy (by decide)
    by_cases z : k2 = N
    · -- the end
      have t0 : tS y n k2 = 0 := by unfold tS; rw [z, R2.1.2.2.1, if_neg (by omega)]
      have c0 : ¬ tC y n k2 = 159 := by rw [tC_end t0]; decide
      rw [t0, if_pos (show nI 0 = 0 from rfl)] at c31
      obtain ⟨h3, f1, f2⟩ := c_make (h := h2) (s := s2) (M := m + 1) S2.2.1 (by rw [q6]; rfl) (by omega) (by omega)
      rw [f1] at c31
      obtain ⟨m1, m2, m3, m4, m5, m6, m7, m8, m9, m10⟩ := f2
      refine ⟨some (nid h2), h3, 1, sI g2 84 11 (-1), lp_inr c31, lp_inr ?_, ⟨eqO_sI b4.1 (by decide), m84_sI (m84_mono b4.2 rd_re) (Or.inr (by decide))⟩, Or.inr ⟨by rw [nid_of b3.1], rfl, by rw [hI_sI', if_pos ⟨rfl, rfl⟩], LAW_from b3 ?_⟩⟩
      · show s_Mod_reads_34 (nI (m + 1)) g2 = _
        unfold s_Mod_reads_34 s_Mod_reads_95 s_Mod_sign
        rw [Option.bind_some, show (100 : Int32) + 59 = nI 159 from rfl, pt59, if_neg c0, Option.bind_some, if_pos (show ((0 : Int32), g2).1 = 0 from rfl)]
        show ((s_Mod_fine g2).bind _) = _
        rw [p_fine1 R2.2.2.2.2.1, Option.bind_some, if_neg i10]
        show (if hI g2 84 15 ≤ hI g2 84 16 then _ else _) = _
        rw [e15', R2.2.2.1, z, if_pos (Int32.le_refl _)]
        show inr ((s_Mod_fine (sI g2 84 11 (hI g2 84 18))).bind _) = _
        rw [R2.2.2.2.2.1, p_fine1 (by rw [hI_sI', if_neg (by omega)]; exact R2.2.2.2.2.1), Option.bind_some, bz_1]
        rfl
      · have l47 : 47 < nid h2 := lt_nid (by decide)
        refine ⟨m + 1, s2, _, _, by omega, by omega, kk0, by rw [kkm, z], CLm _ _ s2 (Nat.le_refl _) m9 (fun j hj => m10 j (by omega)), m2, by omega, m4, m5, m6, m7, m8, ?_, fun j hj => ?_⟩
        · rw [(m1 47 l47).1]; exact S2.2.2.2
        · obtain ⟨x1, x2, x3, x4⟩ := m1 j hj
          exact ⟨x4, x3, fun _ => ⟨x1, x2⟩⟩
    · have hreal : tF y n k2 < n := R2.1.2.2.2.1 k2 (by omega)
      have t0 : ¬ nI (tS y n k2) = 0 := by
        rcases tS_e y n k2 with ⟨x, x2⟩ | ⟨-, -, x⟩
        · omega
        · exact nI_ne0 (by omega) (by omega)
      rw [if_neg t0, show (59 : Int32) = nI 59 from rfl, p_isOther S2.1 (by decide), Option.bind_some] at c31
      by_cases w : tC y n k2 = 159
      · -- another clause
        rw [if_pos (show tC y n k2 = 100 + 59 from w), if_neg i10] at c31
        obtain ⟨h3, f1, f2, f3, f4⟩ := c_next S2
        obtain ⟨F3, R3⟩ := SR_go R2 (by omega)
        rw [f1, Option.bind_some] at c31
        have E3 : eqO sR3 h h3 := eqO_trans b3 (eqO_mono f3.1 sRd_3)
        have G3 : FRd g (sI g2 84 16 (nI (k2 + 1))) := FRd_trans b4 F3
        have e43 : hI h3 47 4 = nI (4 * (m + 1)) := by rw [f3.2, q6]; rfl
        rw [lp_inl (f := fun q : Int32 × Hp => s_Reader_readLaw_31 q.1 q.2) (s := (nI m, h)) c31]
        by_cases l : m + 1 < 12
        · have nx := NX l (k2 + 1) s2 pt2 h3 _ _ _ f2 R3 (by omega) e43 (by rw [F3.2 15 (by decide)]; exact e15') kk0 kkm (CLm _ _ s2 (Nat.le_refl _) (fun j _ => by rw [f4]) (fun j _ => by rw [(f3.1.2 49 (by decide)).1]))
          obtain ⟨o, h4, r, g4, l1, l2, l3, l4⟩ := nx
          obtain ⟨u2, v1, v2⟩ := bind_inv l2
          refine LWo_from E3 (FRe_of G3) ⟨o, h4, r, g4, l1, ?_, l3, l4⟩
          rw [← v2]
          refine lp_inl ?_
          show s_Mod_reads_34 (nI (m + 1)) g2 = _
          unfold s_Mod_reads_34 s_Mod_reads_56 s_Mod_reads_67 s_Mod_sign
          rw [Option.bind_some, show (100 : Int32) + 59 = nI 159 from rfl, pt59, if_pos w, Option.bind_some, if_neg (show ¬ ((1 : Int32), sI g2 84 16 (nI (k2 + 1))).1 = 0 from i10), if_neg (by rw [show (12 : Int32) = nI 12 from rfl, nI_eq (by omega) (by decide)]; omega)]
          show ((s_Mod_fine (sI g2 84 16 (nI (k2 + 1)))).bind _) = _
          rw [p_fine1 R3.2.2.2.2.1, Option.bind_some, if_neg i10]
          show ((s_Mod_readClause (sI g2 84 16 (nI (k2 + 1)))).bind _) = _
          rw [v1, Option.bind_some, nI_1]
        · have l : m + 1 = 12 := by omega
          have fb3 := (tF_b (y := y) (n := n) (k2 + 1)).1
          have s31 : s_Reader_readLaw_31 (nI (m + 1)) h3 = some (.inr (none, sI h3 47 9 (nI (tF y n (k2 + 1))))) := by
            unfold s_Reader_readLaw_31
            rw [l, if_pos (show (12 : Int32) ≤ nI 12 by decide), c_fail f2, Option.bind_some]
          have sR : s_Mod_reads_34 (nI (m + 1)) g2 = some (.inl (nI (m + 1 + 1), sI (sI g2 84 16 (nI (k2 + 1))) 84 18 (nI (tF y n (k2 + 1))))) := by
            unfold s_Mod_reads_34 s_Mod_reads_56 s_Mod_reads_67 s_Mod_sign
            rw [Option.bind_some, show (100 : Int32) + 59 = nI 159 from rfl, pt59, if_pos w, Option.bind_some, if_neg (show ¬ ((1 : Int32), sI g2 84 16 (nI (k2 + 1))).1 = 0 from i10), if_pos (by rw [l]; rfl)]
            show ((s_Mod_faults (sI g2 84 16 (nI (k2 + 1)))).bind _) = _
            rw [p_faults R3, Option.bind_some, p_fine0 (p := tF y n (k2 + 1)) (by rw [hI_sI', if_pos ⟨rfl, rfl⟩]) (by omega), Option.bind_some, if_pos rfl, nI_1]
          rw [lp_inl (f := fun q : Int32 × Hp => s_Mod_reads_34 q.1 q.2) (s := (nI (m + 1), g2)) sR]
          have G4 : FRd g (sI (sI g2 84 16 (nI (k2 + 1))) 84 18 (nI (tF y n (k2 + 1)))) := FRd_sI G3 (by decide)
          refine ⟨none, _, 0, _, lp_inr s31, BD_reads (p := tF y n (k2 + 1)) (by omega) (by rw [hI_sI', if_pos ⟨rfl, rfl⟩]) _, ⟨eqO_sI G4.1 (by decide), m84_sI (m84_mono G4.2 rd_re) (Or.inr (by decide))⟩, Or.inl ⟨rfl, rfl, eqO_sI E3 (by decide), tF y n (k2 + 1), by omega, by rw [hI_sI', if_pos ⟨rfl, rfl⟩], by rw [hI_sI', if_pos ⟨rfl, rfl⟩]⟩⟩
      · -- what doesn't belong there
        rw [if_neg (show ¬ tC y n k2 = 100 + 59 from w), if_pos rfl, c_fail S2, Option.bind_some] at c31
        have G4 : FRd g (sI g2 84 18 (nI (tF y n k2))) := FRd_sI b4 (by decide)
        refine ⟨none, sI h2 47 9 (nI (tF y n k2)), 0, sI (sI g2 84 18 (nI (tF y n k2))) 84 11 (nI (tF y n k2)), lp_inr c31, lp_inr ?_, ⟨eqO_sI G4.1 (by decide), m84_sI (m84_mono G4.2 rd_re) (Or.inr (by decide))⟩, Or.inl ⟨rfl, rfl, eqO_sI b3 (by decide), tF y n k2, by omega, by rw [hI_sI', if_pos ⟨rfl, rfl⟩], by rw [hI_sI', if_pos ⟨rfl, rfl⟩]⟩⟩
        show s_Mod_reads_34 (nI (m + 1)) g2 = _
        unfold s_Mod_reads_34 s_Mod_reads_95 s_Mod_sign
        rw [Option.bind_some, show (100 : Int32) + 59 = nI 159 from rfl, pt59, if_neg w, Option.bind_some, if_pos (show ((0 : Int32), g2).1 = 0 from rfl)]
        show ((s_Mod_fine g2).bind _) = _
        rw [p_fine1 R2.2.2.2.2.1, Option.bind_some, if_neg i10]
        show (if hI g2 84 15 ≤ hI g2 84 16 then _ else _) = _
        rw [e15', R2.2.2.1, if_neg (by rw [nI_leI (by omega) (by omega)]; omega)]
        show ((s_Mod_faults g2).bind _) = _
        have e18 : hI (sI g2 84 18 (nI (tF y n k2))) 84 18 = nI (tF y n k2) := by rw [hI_sI', if_pos ⟨rfl, rfl⟩]
        rw [p_faults R2, Option.bind_some, e18, p_fine0 (p := tF y n k2) (by rw [hI_sI', if_neg (by omega)]; exact e18) (by omega), Option.bind_some, bz_0]
        rfl
theorem j_law {y : Nat → Nat} {n N : Nat} : ∀ (q m k s pt : Nat) (h g : Hp) (cls : Nat → Nat × ((Nat → Int32) → Option Int32)) (kk : Nat → Nat), m + q = 11 → SC y n k s pt h → SR y n N k pt g → s ≤ k → hI h 47 4 = nI (4 * m) → hI g 84 15 = nI N → kk 0 = 0 → kk m = k → (∀ i, i < m → CLF y n N (hI h 48) (hI h 49) s cls kk i) → LWo y n N h g (lp (fun q : Int32 × Hp => s_Reader_readLaw_31 q.1 q.2) (nI m, h)) ((s_Mod_readClause g).bind fun u2 => lp (fun q : Int32 × Hp => s_Mod_reads_34 q.1 q.2) (nI (m + 1), u2))
  | 0, m, k, s, pt, h, g, cls, kk, hq, S, R, hs, e4, e15, k0, km, F => j_law1 (by omega) S R hs e4 e15 k0 km F (fun z => absurd z (by omega))
  | q + 1, m, k, s, pt, h, g, cls, kk, hq, S, R, hs, e4, e15, k0, km, F => j_law1 (by omega) S R hs e4 e15 k0 km F (fun _ k s pt h g cls kk a1 a2 a3 a4 a5 a6 a7 a8 => j_law q (m + 1) k s pt h g cls kk (by omega) a1 a2 a3 a4 a5 a6 a7 a8)
