/-! the law: both read terms and sums -/
def EVx (y : Nat → Nat) (n N dep s s2 pt k k2 : Nat) (c : Nat → Int32) : Prop := ∃ tl, EvCt tl c s s2 pt ∧ ∀ f, 25 ≤ f + 3 * dep → EvRt (tC y n) (tV y n) N (TLP (r_Mod_partOf f).1 (r_Mod_partOf f).2.1 (r_Mod_partOf f).2.2) tl k k2
def EVz (y : Nat → Nat) (n N dep s s2 pt k k2 : Nat) (c : Nat → Int32) : Prop := ∃ tl, EvCt tl c s s2 pt ∧ ∀ f, 26 ≤ f + 3 * dep → EvRt (tC y n) (tV y n) N (SLP (r_Mod_partOf f).1 (r_Mod_partOf f).2.1 (r_Mod_partOf f).2.2) tl k k2
theorem j_xnil {y : Nat → Nat} {n N dep cnt k s pt : Nat} {rc0 rc1 rc2 : Int32 → Hp → Option (Int32 × Hp)} {rd0 rd1 rd2 : Int32 → Hp → Option Hp} {h g : Hp} (S : SC y n k s pt h) (R : SR y n N k pt g) (hc : cnt ≤ 400) (h1 : ¬ tC y n k = 142) (h2 : ¬ tC y n k = 147) : JT y n N 0 (EVx y n N dep) k s pt h g (lp (fun q : Int32 × Int32 × Hp => b_Reader_readTerm_12 rc0 rc1 rc2 q.1 q.2.1 q.2.2) (nI dep, nI cnt, h)) (lp (fun q : Int32 × Hp => b_Mod_readTerm_5 rd0 rd1 rd2 q.1 q.2) (nI dep, g)) := by
  obtain ⟨hn, hy⟩ := SC_y S
  refine ⟨1, h, g, lp_inr ?_, lp_inr ?_, FC_refl h, FRd_refl g, Or.inr ⟨rfl, k, s, pt, by omega, by omega, by omega, by omega, S, R, fun _ _ => rfl, fun _ v => some v, EvCt_nil, fun f _ => EvRm_nil h1 h2⟩⟩
  · show b_Reader_readTerm_12 rc0 rc1 rc2 (nI dep) (nI cnt) h = _
    unfold b_Reader_readTerm_12 b_Reader_readTerm_78
    rw [show (42 : Int32) = nI 42 from rfl, p_isOther S.1 (by decide), Option.bind_some, if_neg (show ¬ tC y n k = 100 + 42 from h1), show (47 : Int32) = nI 47 from rfl, p_isOther S.1 (by decide), Option.bind_some, if_neg (show ¬ tC y n k = 100 + 47 from h2), if_pos rfl, if_pos rfl]
    split <;> rfl
  · show b_Mod_readTerm_5 rd0 rd1 rd2 (nI dep) g = _
    unfold b_Mod_readTerm_5 s_Mod_sign
    rw [Option.bind_some, show (100 : Int32) + 42 = nI 142 from rfl, p_takes R hy (by decide), if_neg h1, Option.bind_some, if_pos (show ((0 : Int32), g).1 = 0 from rfl), Option.bind_some]
    show (s_Mod_takes0 (nI 147) g).bind _ = _
    rw [p_takes R hy (by decide), if_neg h2, Option.bind_some, if_pos (show ((0 : Int32), g).1 = 0 from rfl)]
theorem j_xloop {y : Nat → Nat} {n N dep fc fr : Nat} (H : JP y n N dep) (hfc : 25 ≤ fc + 3 * dep) (hfr : 25 ≤ fr + 3 * dep) : ∀ (q cnt k s pt : Nat) (h g : Hp), N ≤ k + q → cnt ≤ k → SC y n k s pt h → SR y n N k pt g → s ≤ k → 0 < pt → JT y n N 0 (EVx y n N dep) k s pt h g (lp (fun q : Int32 × Int32 × Hp => b_Reader_readTerm_12 (r_Reader_readPart fc).1 (r_Reader_readPart fc).2.1 (r_Reader_readPart fc).2.2 q.1 q.2.1 q.2.2) (nI dep, nI cnt, h)) (lp (fun q : Int32 × Hp => b_Mod_readTerm_5 (r_Mod_readPart fr).1 (r_Mod_readPart fr).2.1 (r_Mod_readPart fr).2.2 q.1 q.2) (nI dep, g)) := by
  intro q
  induction q with
  | zero =>
    intro cnt k s pt h g hq hc S R hs hp
    have kN : k = N := by have := R.2.1; omega
    have c0 : tC y n k = 0 := tC_end (by unfold tS; rw [kN, R.1.2.2.1, if_neg (by omega)])
    exact j_xnil S R (by have := R.1.1; have := R.1.2.1; omega) (by omega) (by omega)
  | succ q ih =>
    intro cnt k s pt h g hq hc S R hs hp
    obtain ⟨hn, hy⟩ := SC_y S
    have kN := R.2.1
    have NN := R.1.1
    have pb := R.2.2.2.2.2
    by_cases sg : tC y n k = 142 ∨ tC y n k = 147
    · have kN2 := SR_lt R (by omega)
      obtain ⟨op, o1⟩ : ∃ op, (op = 4 ∧ tC y n k = 142) ∨ (op = 5 ∧ tC y n k = 147) := by
        rcases sg with z | z
        · exact ⟨4, Or.inl ⟨rfl, z⟩⟩
        · exact ⟨5, Or.inr ⟨rfl, z⟩⟩
      obtain ⟨h1, a1, a2, a3, a4⟩ := c_next S
      obtain ⟨F1, R1⟩ := SR_go R kN2
      obtain ⟨bb, h2, g2, b1, b2, b3, b4, b5⟩ := H fc fr (k + 1) s pt h1 _ hfc hfr a2 R1 (by omega)
      have eC : b_Reader_readTerm_12 (r_Reader_readPart fc).1 (r_Reader_readPart fc).2.1 (r_Reader_readPart fc).2.2 (nI dep) (nI cnt) h = if bb = 0 then some (.inr (0, h2)) else (s_Reader_put (nI op) 0 h2).bind fun u3 => some (.inl (nI dep, nI (cnt + 1), u3)) := by
        have e51 : ∀ s0 : Int32, b_Reader_readTerm_51 (r_Reader_readPart fc).1 (r_Reader_readPart fc).2.1 (r_Reader_readPart fc).2.2 (nI dep) (nI cnt) s0 h = if bb = 0 then some (.inr (0, h2)) else (s_Reader_put s0 0 h2).bind fun u3 => some (.inl (nI dep, nI (cnt + 1), u3)) := fun s0 => by
          unfold b_Reader_readTerm_51
          rw [a1, Option.bind_some, b1, Option.bind_some, nI_1]
        unfold b_Reader_readTerm_12 b_Reader_readTerm_37
        rw [if_neg (by rw [show (400 : Int32) = nI 400 from rfl, nI_leI (by decide) (by omega)]; omega), e51, e51, show (42 : Int32) = nI 42 from rfl, p_isOther S.1 (by decide), Option.bind_some, show (47 : Int32) = nI 47 from rfl, p_isOther S.1 (by decide), Option.bind_some, Option.bind_some]
        rcases o1 with ⟨o1, o2⟩ | ⟨o1, o2⟩
        · rw [if_pos (show tC y n k = 100 + 42 from o2), if_neg i10, if_neg i10, o1]
          rfl
        · rw [if_neg (show ¬ tC y n k = 100 + 42 by omega), if_pos rfl, if_pos (show tC y n k = 100 + 47 from o2), if_neg i10, if_pos rfl, o1]
          rfl
      have eR : b_Mod_readTerm_5 (r_Mod_readPart fr).1 (r_Mod_readPart fr).2.1 (r_Mod_readPart fr).2.2 (nI dep) g = some (.inl (nI dep, g2)) := by
        have e29 : b_Mod_readTerm_29 (r_Mod_readPart fr).1 (r_Mod_readPart fr).2.1 (r_Mod_readPart fr).2.2 (nI dep) (sI g 84 16 (nI (k + 1))) = some (.inl (nI dep, g2)) := by
          unfold b_Mod_readTerm_29
          rw [b2, Option.bind_some]
        unfold b_Mod_readTerm_5 s_Mod_sign
        rw [Option.bind_some, show (100 : Int32) + 42 = nI 142 from rfl, p_takes R hy (by decide)]
        rcases o1 with ⟨o1, o2⟩ | ⟨o1, o2⟩
        · rw [if_pos o2, Option.bind_some, if_neg (show ¬ ((1 : Int32), sI g 84 16 (nI (k + 1))).1 = 0 from i10)]
          exact e29
        · rw [if_neg (show ¬ tC y n k = 142 by omega), Option.bind_some, if_pos (show ((0 : Int32), g).1 = 0 from rfl), Option.bind_some]
          show (s_Mod_takes0 (nI 147) g).bind _ = _
          rw [p_takes R hy (by decide), if_pos o2, Option.bind_some, if_neg (show ¬ ((1 : Int32), sI g 84 16 (nI (k + 1))).1 = 0 from i10)]
          exact e29
      rw [lp_inl (f := fun q : Int32 × Hp => b_Mod_readTerm_5 (r_Mod_readPart fr).1 (r_Mod_readPart fr).2.1 (r_Mod_readPart fr).2.2 q.1 q.2) (s := (nI dep, g)) eR]
      rcases b5 with ⟨e0, fl⟩ | ⟨e1, k2, s2, pt2, q1, q2, q3, q4, S2, R2, q5, D, D1, D2⟩
      · rw [if_pos e0] at eC
        exact ⟨0, h2, g2, lp_inr eC, BD_tloop (FL_BD fl) _, FC_trans a3 b3, FRd_trans F1 b4, Or.inl ⟨rfl, fl⟩⟩
      · have pb2 := R2.2.2.2.2.2
        have kN3 := R2.2.1
        obtain ⟨h3, f1, f2, f3, f4⟩ := c_put S2 (by omega) (nI op) 0
        rw [if_neg (by rw [e1]; exact i10), f1, Option.bind_some] at eC
        rw [lp_inl (f := fun q : Int32 × Int32 × Hp => b_Reader_readTerm_12 (r_Reader_readPart fc).1 (r_Reader_readPart fc).2.1 (r_Reader_readPart fc).2.2 q.1 q.2.1 q.2.2) (s := (nI dep, nI cnt, h)) eC]
        obtain ⟨b6, h4, g4, l1, l2, l3, l4, l5⟩ := ih (cnt + 1) k2 (s2 + 1) pt2 h3 g2 (by omega) (by omega) f2 R2 (by omega) (by omega)
        refine ⟨b6, h4, g4, l1, l2, FC_trans (FC_trans (FC_trans a3 b3) f3) l3, FRd_trans (FRd_trans F1 b4) l4, ?_⟩
        rcases l5 with l5 | ⟨e3, k3, s3, pt3, m1, m2, m3, m4, S3, R3, m5, tl, T1, T2⟩
        · exact Or.inl l5
        · refine Or.inr ⟨e3, k3, s3, pt3, by omega, by omega, by omega, by omega, S3, R3, fun i hi => ?_, _, EvCt_op (op := op) (EvC_congr D1 (fun i h5 h6 => by rw [m5 i (by omega), f4, if_neg (by omega)])) (by rw [m5 s2 (by omega), f4, if_pos rfl]) (by omega) (by omega) T1 (by omega) pb (by omega) m2, fun f hf => EvRm_op o1 (D2 f hf) (T2 f hf) kN3⟩
          rw [m5 i (by omega), f4, if_neg (by omega), q5 i hi, a4]
    · exact j_xnil S R (by omega) (fun z => sg (Or.inl z)) (fun z => sg (Or.inr z))
theorem j_term {y : Nat → Nat} {n N dep : Nat} (hd : dep ≤ 8) (H : JP y n N dep) : JM y n N dep := by
  intro fc fr k s pt h g hfc hfr S R hs
  obtain ⟨fc, rfl⟩ : ∃ m, fc = m + 1 := ⟨fc - 1, by omega⟩
  obtain ⟨fr, rfl⟩ : ∃ m, fr = m + 1 := ⟨fr - 1, by omega⟩
  show JT y n N 1 (EVm y n N dep) k s pt h g (b_Reader_readTerm (r_Reader_readPart fc).1 (r_Reader_readPart fc).2.1 (r_Reader_readPart fc).2.2 (nI dep) h) (b_Mod_readTerm (r_Mod_readPart fr).1 (r_Mod_readPart fr).2.1 (r_Mod_readPart fr).2.2 (nI dep) g)
  obtain ⟨bb, h2, g2, b1, b2, b3, b4, b5⟩ := H fc fr k s pt h g (by omega) (by omega) S R hs
  unfold b_Reader_readTerm b_Mod_readTerm
  rw [b1, Option.bind_some, b2, Option.bind_some]
  rcases b5 with ⟨e0, fl⟩ | ⟨e1, k2, s2, pt2, q1, q2, q3, q4, S2, R2, q5, D, D1, D2⟩
  · rw [e0, if_pos (show ((0 : Int32), h2).1 = 0 from rfl)]
    exact ⟨0, h2, g2, rfl, BD_tloop (FL_BD fl) _, b3, b4, Or.inl ⟨rfl, fl⟩⟩
  · rw [e1, if_neg (show ¬ ((1 : Int32), h2).1 = 0 from i10)]
    have kN3 := R2.2.1
    obtain ⟨b6, h4, g4, l1, l2, l3, l4, l5⟩ := j_xloop (fc := fc) (fr := fr) H (by omega) (by omega) (N - k2) 0 k2 s2 pt2 h2 g2 (by omega) (by omega) S2 R2 (by omega) (by omega)
    refine ⟨b6, h4, g4, l1, l2, FC_trans b3 l3, FRd_trans b4 l4, ?_⟩
    rcases l5 with l5 | ⟨e3, k3, s3, pt3, m1, m2, m3, m4, S3, R3, m5, tl, T1, T2⟩
    · exact Or.inl l5
    · refine Or.inr ⟨e3, k3, s3, pt3, by omega, by omega, by omega, by omega, S3, R3, fun i hi => by rw [m5 i (by omega), q5 i hi], _, EvC_seq (EvC_congr D1 (fun i h5 h6 => m5 i (by omega))) T1 (by omega) (by omega) m2, fun f hf => ?_⟩
      obtain ⟨f, rfl⟩ : ∃ m, f = m + 1 := ⟨f - 1, by omega⟩
      exact EvR_seq (D2 f (by omega)) (T2 f (by omega)) kN3
theorem j_znil {y : Nat → Nat} {n N dep cnt k s pt : Nat} {rc0 rc1 rc2 : Int32 → Hp → Option (Int32 × Hp)} {rd0 rd1 rd2 : Int32 → Hp → Option Hp} {h g : Hp} (S : SC y n k s pt h) (R : SR y n N k pt g) (hc : cnt ≤ 400) (h1 : ¬ tC y n k = 143) (h2 : ¬ tC y n k = 145) : JT y n N 0 (EVz y n N dep) k s pt h g (lp (fun q : Int32 × Int32 × Hp => b_Reader_readSum_12 rc0 rc1 rc2 q.1 q.2.1 q.2.2) (nI dep, nI cnt, h)) (lp (fun q : Int32 × Hp => b_Mod_readSum_5 rd0 rd1 rd2 q.1 q.2) (nI dep, g)) := by
  obtain ⟨hn, hy⟩ := SC_y S
  refine ⟨1, h, g, lp_inr ?_, lp_inr ?_, FC_refl h, FRd_refl g, Or.inr ⟨rfl, k, s, pt, by omega, by omega, by omega, by omega, S, R, fun _ _ => rfl, fun _ v => some v, EvCt_nil, fun f _ => EvRs_nil h1 h2⟩⟩
  · show b_Reader_readSum_12 rc0 rc1 rc2 (nI dep) (nI cnt) h = _
    unfold b_Reader_readSum_12 b_Reader_readSum_78
    rw [show (43 : Int32) = nI 43 from rfl, p_isOther S.1 (by decide), Option.bind_some, if_neg (show ¬ tC y n k = 100 + 43 from h1), show (45 : Int32) = nI 45 from rfl, p_isOther S.1 (by decide), Option.bind_some, if_neg (show ¬ tC y n k = 100 + 45 from h2), if_pos rfl, if_pos rfl]
    split <;> rfl
  · show b_Mod_readSum_5 rd0 rd1 rd2 (nI dep) g = _
    unfold b_Mod_readSum_5 s_Mod_sign
    rw [Option.bind_some, show (100 : Int32) + 43 = nI 143 from rfl, p_takes R hy (by decide), if_neg h1, Option.bind_some, if_pos (show ((0 : Int32), g).1 = 0 from rfl), Option.bind_some]
    show (s_Mod_takes0 (nI 145) g).bind _ = _
    rw [p_takes R hy (by decide), if_neg h2, Option.bind_some, if_pos (show ((0 : Int32), g).1 = 0 from rfl)]
theorem j_zloop {y : Nat → Nat} {n N dep fc fr : Nat} (H : JM y n N dep) (hfc : 26 ≤ fc + 3 * dep) (hfr : 26 ≤ fr + 3 * dep) : ∀ (q cnt k s pt : Nat) (h g : Hp), N ≤ k + q → cnt ≤ k → SC y n k s pt h → SR y n N k pt g → s ≤ k → 0 < pt → JT y n N 0 (EVz y n N dep) k s pt h g (lp (fun q : Int32 × Int32 × Hp => b_Reader_readSum_12 (r_Reader_readPart fc).1 (r_Reader_readPart fc).2.1 (r_Reader_readPart fc).2.2 q.1 q.2.1 q.2.2) (nI dep, nI cnt, h)) (lp (fun q : Int32 × Hp => b_Mod_readSum_5 (r_Mod_readPart fr).1 (r_Mod_readPart fr).2.1 (r_Mod_readPart fr).2.2 q.1 q.2) (nI dep, g)) := by
  intro q
  induction q with
  | zero =>
    intro cnt k s pt h g hq hc S R hs hp
    have kN : k = N := by have := R.2.1; omega
    have c0 : tC y n k = 0 := tC_end (by unfold tS; rw [kN, R.1.2.2.1, if_neg (by omega)])
    exact j_znil S R (by have := R.1.1; have := R.1.2.1; omega) (by omega) (by omega)
  | succ q ih =>
    intro cnt k s pt h g hq hc S R hs hp
    obtain ⟨hn, hy⟩ := SC_y S
    have kN := R.2.1
    have NN := R.1.1
    have pb := R.2.2.2.2.2
    by_cases sg : tC y n k = 143 ∨ tC y n k = 145
    · have kN2 := SR_lt R (by omega)
      obtain ⟨op, o1⟩ : ∃ op, (op = 2 ∧ tC y n k = 143) ∨ (op = 3 ∧ tC y n k = 145) := by
        rcases sg with z | z
        · exact ⟨2, Or.inl ⟨rfl, z⟩⟩
        · exact ⟨3, Or.inr ⟨rfl, z⟩⟩
      obtain ⟨h1, a1, a2, a3, a4⟩ := c_next S
      obtain ⟨F1, R1⟩ := SR_go R kN2
      obtain ⟨bb, h2, g2, b1, b2, b3, b4, b5⟩ := H fc fr (k + 1) s pt h1 _ hfc hfr a2 R1 (by omega)
      have eC : b_Reader_readSum_12 (r_Reader_readPart fc).1 (r_Reader_readPart fc).2.1 (r_Reader_readPart fc).2.2 (nI dep) (nI cnt) h = if bb = 0 then some (.inr (0, h2)) else (s_Reader_put (nI op) 0 h2).bind fun u3 => some (.inl (nI dep, nI (cnt + 1), u3)) := by
        have e51 : ∀ s0 : Int32, b_Reader_readSum_51 (r_Reader_readPart fc).1 (r_Reader_readPart fc).2.1 (r_Reader_readPart fc).2.2 (nI dep) (nI cnt) s0 h = if bb = 0 then some (.inr (0, h2)) else (s_Reader_put s0 0 h2).bind fun u3 => some (.inl (nI dep, nI (cnt + 1), u3)) := fun s0 => by
          unfold b_Reader_readSum_51
          rw [a1, Option.bind_some, b1, Option.bind_some, nI_1]
        unfold b_Reader_readSum_12 b_Reader_readSum_37
        rw [if_neg (by rw [show (400 : Int32) = nI 400 from rfl, nI_leI (by decide) (by omega)]; omega), e51, e51, show (43 : Int32) = nI 43 from rfl, p_isOther S.1 (by decide), Option.bind_some, show (45 : Int32) = nI 45 from rfl, p_isOther S.1 (by decide), Option.bind_some, Option.bind_some]
        rcases o1 with ⟨o1, o2⟩ | ⟨o1, o2⟩
        · rw [if_pos (show tC y n k = 100 + 43 from o2), if_neg i10, if_neg i10, o1]
          rfl
        · rw [if_neg (show ¬ tC y n k = 100 + 43 by omega), if_pos rfl, if_pos (show tC y n k = 100 + 45 from o2), if_neg i10, if_pos rfl, o1]
          rfl
      have eR : b_Mod_readSum_5 (r_Mod_readPart fr).1 (r_Mod_readPart fr).2.1 (r_Mod_readPart fr).2.2 (nI dep) g = some (.inl (nI dep, g2)) := by
        have e29 : b_Mod_readSum_29 (r_Mod_readPart fr).1 (r_Mod_readPart fr).2.1 (r_Mod_readPart fr).2.2 (nI dep) (sI g 84 16 (nI (k + 1))) = some (.inl (nI dep, g2)) := by
          unfold b_Mod_readSum_29
          rw [b2, Option.bind_some]
        unfold b_Mod_readSum_5 s_Mod_sign
        rw [Option.bind_some, show (100 : Int32) + 43 = nI 143 from rfl, p_takes R hy (by decide)]
        rcases o1 with ⟨o1, o2⟩ | ⟨o1, o2⟩
        · rw [if_pos o2, Option.bind_some, if_neg (show ¬ ((1 : Int32), sI g 84 16 (nI (k + 1))).1 = 0 from i10)]
          exact e29
        · rw [if_neg (show ¬ tC y n k = 143 by omega), Option.bind_some, if_pos (show ((0 : Int32), g).1 = 0 from rfl), Option.bind_some]
          show (s_Mod_takes0 (nI 145) g).bind _ = _
          rw [p_takes R hy (by decide), if_pos o2, Option.bind_some, if_neg (show ¬ ((1 : Int32), sI g 84 16 (nI (k + 1))).1 = 0 from i10)]
          exact e29
      rw [lp_inl (f := fun q : Int32 × Hp => b_Mod_readSum_5 (r_Mod_readPart fr).1 (r_Mod_readPart fr).2.1 (r_Mod_readPart fr).2.2 q.1 q.2) (s := (nI dep, g)) eR]
      rcases b5 with ⟨e0, fl⟩ | ⟨e1, k2, s2, pt2, q1, q2, q3, q4, S2, R2, q5, D, D1, D2⟩
      · rw [if_pos e0] at eC
        exact ⟨0, h2, g2, lp_inr eC, BD_sloop (FL_BD fl) _, FC_trans a3 b3, FRd_trans F1 b4, Or.inl ⟨rfl, fl⟩⟩
      · have pb2 := R2.2.2.2.2.2
        have kN3 := R2.2.1
        obtain ⟨h3, f1, f2, f3, f4⟩ := c_put S2 (by omega) (nI op) 0
        rw [if_neg (by rw [e1]; exact i10), f1, Option.bind_some] at eC
        rw [lp_inl (f := fun q : Int32 × Int32 × Hp => b_Reader_readSum_12 (r_Reader_readPart fc).1 (r_Reader_readPart fc).2.1 (r_Reader_readPart fc).2.2 q.1 q.2.1 q.2.2) (s := (nI dep, nI cnt, h)) eC]
        obtain ⟨b6, h4, g4, l1, l2, l3, l4, l5⟩ := ih (cnt + 1) k2 (s2 + 1) pt2 h3 g2 (by omega) (by omega) f2 R2 (by omega) (by omega)
        refine ⟨b6, h4, g4, l1, l2, FC_trans (FC_trans (FC_trans a3 b3) f3) l3, FRd_trans (FRd_trans F1 b4) l4, ?_⟩
        rcases l5 with l5 | ⟨e3, k3, s3, pt3, m1, m2, m3, m4, S3, R3, m5, tl, T1, T2⟩
        · exact Or.inl l5
        · refine Or.inr ⟨e3, k3, s3, pt3, by omega, by omega, by omega, by omega, S3, R3, fun i hi => ?_, _, EvCt_op (op := op) (EvC_congr D1 (fun i h5 h6 => by rw [m5 i (by omega), f4, if_neg (by omega)])) (by rw [m5 s2 (by omega), f4, if_pos rfl]) (by omega) (by omega) T1 (by omega) pb (by omega) m2, fun f hf => EvRs_op o1 (D2 f hf) (T2 f hf) kN3⟩
          rw [m5 i (by omega), f4, if_neg (by omega), q5 i hi, a4]
    · exact j_znil S R (by omega) (fun z => sg (Or.inl z)) (fun z => sg (Or.inr z))
theorem j_sum {y : Nat → Nat} {n N dep : Nat} (hd : dep ≤ 8) (H : JM y n N dep) : JS y n N dep := by
  intro fc fr k s pt h g hfc hfr S R hs
  obtain ⟨fc, rfl⟩ : ∃ m, fc = m + 1 := ⟨fc - 1, by omega⟩
  obtain ⟨fr, rfl⟩ : ∃ m, fr = m + 1 := ⟨fr - 1, by omega⟩
  show JT y n N 1 (EVs y n N dep) k s pt h g (b_Reader_readSum (r_Reader_readPart fc).1 (r_Reader_readPart fc).2.1 (r_Reader_readPart fc).2.2 (nI dep) h) (b_Mod_readSum (r_Mod_readPart fr).1 (r_Mod_readPart fr).2.1 (r_Mod_readPart fr).2.2 (nI dep) g)
  obtain ⟨bb, h2, g2, b1, b2, b3, b4, b5⟩ := H fc fr k s pt h g (by omega) (by omega) S R hs
  unfold b_Reader_readSum b_Mod_readSum
  rw [b1, Option.bind_some, b2, Option.bind_some]
  rcases b5 with ⟨e0, fl⟩ | ⟨e1, k2, s2, pt2, q1, q2, q3, q4, S2, R2, q5, D, D1, D2⟩
  · rw [e0, if_pos (show ((0 : Int32), h2).1 = 0 from rfl)]
    exact ⟨0, h2, g2, rfl, BD_sloop (FL_BD fl) _, b3, b4, Or.inl ⟨rfl, fl⟩⟩
  · rw [e1, if_neg (show ¬ ((1 : Int32), h2).1 = 0 from i10)]
    have kN3 := R2.2.1
    obtain ⟨b6, h4, g4, l1, l2, l3, l4, l5⟩ := j_zloop (fc := fc) (fr := fr) H (by omega) (by omega) (N - k2) 0 k2 s2 pt2 h2 g2 (by omega) (by omega) S2 R2 (by omega) (by omega)
    refine ⟨b6, h4, g4, l1, l2, FC_trans b3 l3, FRd_trans b4 l4, ?_⟩
    rcases l5 with l5 | ⟨e3, k3, s3, pt3, m1, m2, m3, m4, S3, R3, m5, tl, T1, T2⟩
    · exact Or.inl l5
    · refine Or.inr ⟨e3, k3, s3, pt3, by omega, by omega, by omega, by omega, S3, R3, fun i hi => by rw [m5 i (by omega), q5 i hi], _, EvC_seq (EvC_congr D1 (fun i h5 h6 => m5 i (by omega))) T1 (by omega) (by omega) m2, fun f hf => ?_⟩
      obtain ⟨f, rfl⟩ : ∃ m, f = m + 1 := ⟨f - 1, by omega⟩
      exact EvR_seq (D2 f (by omega)) (T2 f (by omega)) kN3
theorem j_all {y : Nat → Nat} {n N : Nat} : ∀ (q dep : Nat), dep + q = 8 → JS y n N dep
  | 0, dep, h => j_sum (by omega) (j_term (by omega) (j_part (by omega) (fun z => absurd z (by omega))))
  | q + 1, dep, h => j_sum (by omega) (j_term (by omega) (j_part (by omega) (fun _ => j_all q (dep + 1) (by omega))))
