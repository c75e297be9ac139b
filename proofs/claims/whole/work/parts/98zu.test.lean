/-! the law: both read tests -/
theorem JT_from {y : Nat → Nat} {n N d k s pt : Nat} {EV EV2 : Nat → Nat → Nat → Nat → Nat → (Nat → Int32) → Prop} {h g h1 g1 : Hp} {X : Option (Int32 × Hp)} {Y : Option Hp} (J : JT y n N d EV2 k s pt h1 g1 X Y) (F1 : FC h h1) (F2 : FRd g g1) (e : hI h1 48 = hI h 48) (E : ∀ s2 k2 c, k2 ≤ N → EV2 s s2 pt k k2 c → EV s s2 pt k k2 c) : JT y n N d EV k s pt h g X Y := by
  obtain ⟨b, h2, g2, b1, b2, b3, b4, b5⟩ := J
  refine ⟨b, h2, g2, b1, b2, FC_trans F1 b3, FRd_trans F2 b4, ?_⟩
  rcases b5 with b5 | ⟨e1, k2, s2, pt2, q1, q2, q3, q4, S2, R2, q5, q6⟩
  · exact Or.inl b5
  · exact Or.inr ⟨e1, k2, s2, pt2, q1, q2, q3, q4, S2, R2, fun i hi => by rw [q5 i hi, e], E s2 k2 _ R2.2.1 q6⟩
theorem j_nots0 {y : Nat → Nat} {n N dep fc fr cnt k k0 s pt : Nat} {tu : Bool} {h g : Hp} (hd : dep ≤ 8) (H : dep < 8 → JE y n N (dep + 1)) (hfc : 33 ≤ fc + 4 * dep) (hfr : 24 ≤ fr + 3 * dep) (S : SC y n k s pt h) (R : SR y n N k pt g) (hc : cnt ≤ 400) (n6 : ¬ tC y n k = 6) (k0k : k0 + (if tu then 1 else 0) ≤ k) (hs : s ≤ k0) : JT y n N 1 (EVn y n N dep k tu) k0 s pt h g (lp (fun q : Int32 × Int32 × Int32 × Hp => b_Reader_readPlain_4 (r_Reader_readBoth fc).1 (r_Reader_readBoth fc).2.1 (r_Reader_readBoth fc).2.2.1 (r_Reader_readBoth fc).2.2.2 q.1 q.2.1 q.2.2.1 q.2.2.2) (nI dep, b01 tu, nI cnt, h)) (lp (fun q : Int32 × Int32 × Hp => b_Mod_readPlain_2 (r_Mod_readBoth fr).1 (r_Mod_readBoth fr).2.1 (r_Mod_readBoth fr).2.2 q.1 q.2.1 q.2.2) (nI dep, 1, g)) := by
  obtain ⟨hn, hy⟩ := SC_y S
  obtain ⟨b, h2, g2, b1, b2, b5⟩ := j_pos (fc := fc) (fr := fr) hd H hfc hfr S R n6 k0k hs
  have eR : b_Mod_readPlain_2 (r_Mod_readBoth fr).1 (r_Mod_readBoth fr).2.1 (r_Mod_readBoth fr).2.2 (nI dep) 1 g = some (.inl (nI dep, 0, g)) := by
    unfold b_Mod_readPlain_2
    rw [if_neg i10, show (6 : Int32) = nI 6 from rfl, p_takes R hy (by decide), if_neg n6, Option.bind_some]
  refine ⟨b, h2, g2, lp_inr ?_, (lp_inl (f := fun q : Int32 × Int32 × Hp => b_Mod_readPlain_2 (r_Mod_readBoth fr).1 (r_Mod_readBoth fr).2.1 (r_Mod_readBoth fr).2.2 q.1 q.2.1 q.2.2) (s := (nI dep, 1, g)) eR).trans b2, b5⟩
  show b_Reader_readPlain_4 (r_Reader_readBoth fc).1 (r_Reader_readBoth fc).2.1 (r_Reader_readBoth fc).2.2.1 (r_Reader_readBoth fc).2.2.2 (nI dep) (b01 tu) (nI cnt) h = _
  unfold b_Reader_readPlain_4
  rw [b1, p_isWord S.1 (by decide), Option.bind_some, if_neg (show ¬ tC y n k = wJ 10 from n6), if_pos rfl]
  split <;> rfl
theorem j_nots {y : Nat → Nat} {n N dep fc fr : Nat} (hd : dep ≤ 8) (H : dep < 8 → JE y n N (dep + 1)) (hfc : 33 ≤ fc + 4 * dep) (hfr : 24 ≤ fr + 3 * dep) : ∀ (q cnt k k0 s pt : Nat) (tu : Bool) (h g : Hp), N ≤ k + q → cnt ≤ k → SC y n k s pt h → SR y n N k pt g → k0 + (if tu then 1 else 0) ≤ k → s ≤ k0 → JT y n N 1 (EVn y n N dep k tu) k0 s pt h g (lp (fun q : Int32 × Int32 × Int32 × Hp => b_Reader_readPlain_4 (r_Reader_readBoth fc).1 (r_Reader_readBoth fc).2.1 (r_Reader_readBoth fc).2.2.1 (r_Reader_readBoth fc).2.2.2 q.1 q.2.1 q.2.2.1 q.2.2.2) (nI dep, b01 tu, nI cnt, h)) (lp (fun q : Int32 × Int32 × Hp => b_Mod_readPlain_2 (r_Mod_readBoth fr).1 (r_Mod_readBoth fr).2.1 (r_Mod_readBoth fr).2.2 q.1 q.2.1 q.2.2) (nI dep, 1, g)) := by
  intro q
  induction q with
  | zero =>
    intro cnt k k0 s pt tu h g hq hc S R k0k hs
    have kN : k = N := by have := R.2.1; omega
    have c0 : tC y n k = 0 := tC_end (by unfold tS; rw [kN, R.1.2.2.1, if_neg (by omega)])
    exact j_nots0 hd H hfc hfr S R (by have := R.1.1; have := R.1.2.1; omega) (by omega) k0k hs
  | succ q ih =>
    intro cnt k k0 s pt tu h g hq hc S R k0k hs
    obtain ⟨hn, hy⟩ := SC_y S
    have kN := R.2.1
    have NN := R.1.1
    by_cases z : tC y n k = 6
    · have kN2 := SR_lt R (by omega)
      obtain ⟨h1, a1, a2, a3, a4⟩ := c_next S
      obtain ⟨F1, R1⟩ := SR_go R kN2
      have eC : b_Reader_readPlain_4 (r_Reader_readBoth fc).1 (r_Reader_readBoth fc).2.1 (r_Reader_readBoth fc).2.2.1 (r_Reader_readBoth fc).2.2.2 (nI dep) (b01 tu) (nI cnt) h = some (.inl (nI dep, b01 (!tu), nI (cnt + 1), h1)) := by
        unfold b_Reader_readPlain_4 b_Reader_readPlain_29
        rw [if_neg (by rw [show (400 : Int32) = nI 400 from rfl, nI_leI (by decide) (by omega)]; omega), p_isWord S.1 (by decide), Option.bind_some, if_pos (show tC y n k = wJ 10 from z), if_neg i10, a1, Option.bind_some, Option.bind_some, nI_1]
        cases tu <;> rfl
      have eR : b_Mod_readPlain_2 (r_Mod_readBoth fr).1 (r_Mod_readBoth fr).2.1 (r_Mod_readBoth fr).2.2 (nI dep) 1 g = some (.inl (nI dep, 1, sI g 84 16 (nI (k + 1)))) := by
        unfold b_Mod_readPlain_2
        rw [if_neg i10, show (6 : Int32) = nI 6 from rfl, p_takes R hy (by decide), if_pos z, Option.bind_some]
      rw [lp_inl (f := fun q : Int32 × Int32 × Hp => b_Mod_readPlain_2 (r_Mod_readBoth fr).1 (r_Mod_readBoth fr).2.1 (r_Mod_readBoth fr).2.2 q.1 q.2.1 q.2.2) (s := (nI dep, 1, g)) eR, lp_inl (f := fun q : Int32 × Int32 × Int32 × Hp => b_Reader_readPlain_4 (r_Reader_readBoth fc).1 (r_Reader_readBoth fc).2.1 (r_Reader_readBoth fc).2.2.1 (r_Reader_readBoth fc).2.2.2 q.1 q.2.1 q.2.2.1 q.2.2.2) (s := (nI dep, b01 tu, nI cnt, h)) eC]
      refine JT_from (ih (cnt + 1) (k + 1) k0 s pt (!tu) h1 _ (by omega) (by omega) a2 R1 (by cases tu <;> simp at k0k ⊢ <;> omega) hs) a3 F1 a4 (fun s2 k2 c _ E => ?_)
      obtain ⟨B, B1, B2⟩ := E
      exact ⟨B, B1, fun f hf => EvS_notS z (B2 f hf)⟩
    · exact j_nots0 hd H hfc hfr S R (by omega) z k0k hs
theorem j_plain {y : Nat → Nat} {n N dep : Nat} (hd : dep ≤ 8) (H : dep < 8 → JE y n N (dep + 1)) : JL y n N dep := by
  intro fc fr k s pt h g hfc hfr S R hs
  obtain ⟨fc, rfl⟩ : ∃ m, fc = m + 1 := ⟨fc - 1, by omega⟩
  obtain ⟨fr, rfl⟩ : ∃ m, fr = m + 1 := ⟨fr - 1, by omega⟩
  have kN := R.2.1
  refine JT_from (h1 := h) (g1 := g) (j_nots (fc := fc) (fr := fr) hd H (by omega) (by omega) (N - k) 0 k k s pt false h g (by omega) (by omega) S R (by rw [if_neg (show ¬ false = true by decide)]; omega) hs) (FC_refl h) (FRd_refl g) rfl (fun s2 k2 c _ E => ?_)
  obtain ⟨B, B1, B2⟩ := E
  refine ⟨B, B1, fun f hf => ?_⟩
  obtain ⟨f, rfl⟩ : ∃ m, f = m + 1 := ⟨f - 1, by omega⟩
  exact B2 f (by omega)
def EVu (y : Nat → Nat) (n N dep s s2 pt k k2 : Nat) (c : Nat → Int32) : Prop := ∃ tb, EvCb tb c s s2 pt ∧ ∀ f, 34 ≤ f + 4 * dep → EvSt (tC y n) (tV y n) N (BLP (r_Mod_bothOf f).1 (r_Mod_bothOf f).2.1 (r_Mod_bothOf f).2.2.1 (r_Mod_bothOf f).2.2.2) tb k k2
def EVv (y : Nat → Nat) (n N dep s s2 pt k k2 : Nat) (c : Nat → Int32) : Prop := ∃ tb, EvCb tb c s s2 pt ∧ ∀ f, 35 ≤ f + 4 * dep → EvSt (tC y n) (tV y n) N (OLP (r_Mod_bothOf f).1 (r_Mod_bothOf f).2.1 (r_Mod_bothOf f).2.2.1 (r_Mod_bothOf f).2.2.2) tb k k2
theorem BD_uloop {rc0 rc1 rc2 : Int32 → Hp → Option Hp} {g : Hp} (B : BDd g) (d : Int32) : lp (fun q : Int32 × Hp => b_Mod_readBoth_5 rc0 rc1 rc2 q.1 q.2) (d, g) = some g := by
  refine lp_inr ?_
  show b_Mod_readBoth_5 rc0 rc1 rc2 d g = _
  unfold b_Mod_readBoth_5
  rw [BD_takes B, Option.bind_some, if_pos (show ((0 : Int32), g).1 = 0 from rfl)]
theorem j_unil {y : Nat → Nat} {n N dep cnt k s pt : Nat} {rc0 rc1 rc2 rc3 : Int32 → Hp → Option (Int32 × Hp)} {rd0 rd1 rd2 : Int32 → Hp → Option Hp} {h g : Hp} (S : SC y n k s pt h) (R : SR y n N k pt g) (hc : cnt ≤ 400) (h1 : ¬ tC y n k = 5) : JT y n N 0 (EVu y n N dep) k s pt h g (lp (fun q : Int32 × Int32 × Hp => b_Reader_readBoth_12 rc0 rc1 rc2 rc3 q.1 q.2.1 q.2.2) (nI dep, nI cnt, h)) (lp (fun q : Int32 × Hp => b_Mod_readBoth_5 rd0 rd1 rd2 q.1 q.2) (nI dep, g)) := by
  obtain ⟨hn, hy⟩ := SC_y S
  refine ⟨1, h, g, lp_inr ?_, lp_inr ?_, FC_refl h, FRd_refl g, Or.inr ⟨rfl, k, s, pt, by omega, by omega, by omega, by omega, S, R, fun _ _ => rfl, fun _ v => some v, EvCb_nil, fun f _ => EvSb_nil h1⟩⟩
  · show b_Reader_readBoth_12 rc0 rc1 rc2 rc3 (nI dep) (nI cnt) h = _
    unfold b_Reader_readBoth_12 b_Reader_readBoth_67
    rw [p_isWord S.1 (by decide), Option.bind_some, if_neg (show ¬ tC y n k = wJ 11 from h1), if_pos rfl]
    split <;> rfl
  · show b_Mod_readBoth_5 rd0 rd1 rd2 (nI dep) g = _
    unfold b_Mod_readBoth_5
    rw [show (5 : Int32) = nI 5 from rfl, p_takes R hy (by decide), if_neg h1, Option.bind_some, if_pos (show ((0 : Int32), g).1 = 0 from rfl)]
theorem j_uloop {y : Nat → Nat} {n N dep fc fr : Nat} (H : JL y n N dep) (hfc : 34 ≤ fc + 4 * dep) (hfr : 25 ≤ fr + 3 * dep) : ∀ (q cnt k s pt : Nat) (h g : Hp), N ≤ k + q → cnt ≤ k → SC y n k s pt h → SR y n N k pt g → s ≤ k → 0 < pt → JT y n N 0 (EVu y n N dep) k s pt h g (lp (fun q : Int32 × Int32 × Hp => b_Reader_readBoth_12 (r_Reader_readBoth fc).1 (r_Reader_readBoth fc).2.1 (r_Reader_readBoth fc).2.2.1 (r_Reader_readBoth fc).2.2.2 q.1 q.2.1 q.2.2) (nI dep, nI cnt, h)) (lp (fun q : Int32 × Hp => b_Mod_readBoth_5 (r_Mod_readBoth fr).1 (r_Mod_readBoth fr).2.1 (r_Mod_readBoth fr).2.2 q.1 q.2) (nI dep, g)) := by
  intro q
  induction q with
  | zero =>
    intro cnt k s pt h g hq hc S R hs hp
    have kN : k = N := by have := R.2.1; omega
    have c0 : tC y n k = 0 := tC_end (by unfold tS; rw [kN, R.1.2.2.1, if_neg (by omega)])
    exact j_unil S R (by have := R.1.1; have := R.1.2.1; omega) (by omega)
  | succ q ih =>
    intro cnt k s pt h g hq hc S R hs hp
    obtain ⟨hn, hy⟩ := SC_y S
    have kN := R.2.1
    have NN := R.1.1
    have pb := R.2.2.2.2.2
    by_cases sg : tC y n k = 5
    · have kN2 := SR_lt R (by omega)
      obtain ⟨h0, p1, p2, p3, p4⟩ := c_put S (by omega) 11 0
      obtain ⟨h1, a1, a2, a3, a4⟩ := c_next p2
      obtain ⟨F1, R1⟩ := SR_go R kN2
      obtain ⟨bb, h2, g2, b1, b2, b3, b4, b5⟩ := H fc fr (k + 1) (s + 1) pt h1 _ hfc hfr a2 R1 (by omega)
      have eC : b_Reader_readBoth_12 (r_Reader_readBoth fc).1 (r_Reader_readBoth fc).2.1 (r_Reader_readBoth fc).2.2.1 (r_Reader_readBoth fc).2.2.2 (nI dep) (nI cnt) h = if bb = 0 then some (.inr (0, h2)) else (s_Reader_aimHere (nI s) 11 h2).bind fun u5 => some (.inl (nI dep, nI (cnt + 1), u5)) := by
        unfold b_Reader_readBoth_12
        rw [if_neg (by rw [show (400 : Int32) = nI 400 from rfl, nI_leI (by decide) (by omega)]; omega), p_isWord S.1 (by decide), Option.bind_some, if_pos (show tC y n k = wJ 11 from sg), if_neg i10, p1, Option.bind_some, a1, Option.bind_some, b1, Option.bind_some, S.2.1, nI_1]
      have eR : b_Mod_readBoth_5 (r_Mod_readBoth fr).1 (r_Mod_readBoth fr).2.1 (r_Mod_readBoth fr).2.2 (nI dep) g = some (.inl (nI dep, g2)) := by
        unfold b_Mod_readBoth_5
        rw [show (5 : Int32) = nI 5 from rfl, p_takes R hy (by decide), if_pos sg, Option.bind_some, if_neg (show ¬ ((1 : Int32), sI g 84 16 (nI (k + 1))).1 = 0 from i10)]
        show ((r_Mod_readBoth fr).2.1 (nI dep) (sI g 84 16 (nI (k + 1)))).bind _ = _
        rw [b2, Option.bind_some]
      rw [lp_inl (f := fun q : Int32 × Hp => b_Mod_readBoth_5 (r_Mod_readBoth fr).1 (r_Mod_readBoth fr).2.1 (r_Mod_readBoth fr).2.2 q.1 q.2) (s := (nI dep, g)) eR]
      have Fh := FC_trans p3 a3
      rcases b5 with ⟨e0, fl⟩ | ⟨e1, k2, s2, pt2, q1, q2, q3, q4, S2, R2, q5, D, D1, D2⟩
      · rw [if_pos e0] at eC
        exact ⟨0, h2, g2, lp_inr eC, BD_uloop (FL_BD fl) _, FC_trans Fh b3, FRd_trans F1 b4, Or.inl ⟨rfl, fl⟩⟩
      · have pb2 := R2.2.2.2.2.2
        have kN3 := R2.2.1
        obtain ⟨h3, f1, f2, f3, f4⟩ := c_aim (j := s) S2 (by omega) 11
        rw [if_neg (by rw [e1]; exact i10), f1, Option.bind_some] at eC
        rw [lp_inl (f := fun q : Int32 × Int32 × Hp => b_Reader_readBoth_12 (r_Reader_readBoth fc).1 (r_Reader_readBoth fc).2.1 (r_Reader_readBoth fc).2.2.1 (r_Reader_readBoth fc).2.2.2 q.1 q.2.1 q.2.2) (s := (nI dep, nI cnt, h)) eC]
        obtain ⟨b6, h4, g4, l1, l2, l3, l4, l5⟩ := ih (cnt + 1) k2 s2 pt2 h3 g2 (by omega) (by omega) f2 R2 (by omega) (by omega)
        refine ⟨b6, h4, g4, l1, l2, FC_trans (FC_trans (FC_trans Fh b3) f3) l3, FRd_trans (FRd_trans F1 b4) l4, ?_⟩
        rcases l5 with l5 | ⟨e3, k3, s3, pt3, m1, m2, m3, m4, S3, R3, m5, tb, T1, T2⟩
        · exact Or.inl l5
        · refine Or.inr ⟨e3, k3, s3, pt3, by omega, by omega, by omega, by omega, S3, R3, fun i hi => ?_, _, EvCb_jmp false (by rw [m5 s (by omega), f4, if_pos rfl]; rfl) (EvC_congr D1 (fun i h5 h6 => by rw [m5 i (by omega), f4, if_neg (by omega)])) T1 (by omega) pb (by omega) m2, fun f hf => EvSb_and sg (D2 f hf) (T2 f hf) kN3⟩
          rw [m5 i (by omega), f4, if_neg (by omega), q5 i (by omega), a4, p4, if_neg (by omega)]
    · exact j_unil S R (by omega) sg
theorem j_both {y : Nat → Nat} {n N dep : Nat} (hd : dep ≤ 8) (H : JL y n N dep) : JB y n N dep := by
  intro fc fr k s pt h g hfc hfr S R hs
  obtain ⟨fc, rfl⟩ : ∃ m, fc = m + 1 := ⟨fc - 1, by omega⟩
  obtain ⟨fr, rfl⟩ : ∃ m, fr = m + 1 := ⟨fr - 1, by omega⟩
  show JT y n N 1 (EVb y n N dep) k s pt h g (b_Reader_readBoth (r_Reader_readBoth fc).1 (r_Reader_readBoth fc).2.1 (r_Reader_readBoth fc).2.2.1 (r_Reader_readBoth fc).2.2.2 (nI dep) h) (b_Mod_readBoth (r_Mod_readBoth fr).1 (r_Mod_readBoth fr).2.1 (r_Mod_readBoth fr).2.2 (nI dep) g)
  obtain ⟨bb, h2, g2, b1, b2, b3, b4, b5⟩ := H fc fr k s pt h g (by omega) (by omega) S R hs
  unfold b_Reader_readBoth b_Mod_readBoth
  rw [b1, Option.bind_some, b2, Option.bind_some]
  rcases b5 with ⟨e0, fl⟩ | ⟨e1, k2, s2, pt2, q1, q2, q3, q4, S2, R2, q5, D, D1, D2⟩
  · rw [e0, if_pos (show ((0 : Int32), h2).1 = 0 from rfl)]
    exact ⟨0, h2, g2, rfl, BD_uloop (FL_BD fl) _, b3, b4, Or.inl ⟨rfl, fl⟩⟩
  · rw [e1, if_neg (show ¬ ((1 : Int32), h2).1 = 0 from i10)]
    have kN3 := R2.2.1
    obtain ⟨b6, h4, g4, l1, l2, l3, l4, l5⟩ := j_uloop (fc := fc) (fr := fr) H (by omega) (by omega) (N - k2) 0 k2 s2 pt2 h2 g2 (by omega) (by omega) S2 R2 (by omega) (by omega)
    refine ⟨b6, h4, g4, l1, l2, FC_trans b3 l3, FRd_trans b4 l4, ?_⟩
    rcases l5 with l5 | ⟨e3, k3, s3, pt3, m1, m2, m3, m4, S3, R3, m5, tb, T1, T2⟩
    · exact Or.inl l5
    · refine Or.inr ⟨e3, k3, s3, pt3, by omega, by omega, by omega, by omega, S3, R3, fun i hi => by rw [m5 i (by omega), q5 i hi], _, EvB_seq (EvC_congr D1 (fun i h5 h6 => m5 i (by omega))) T1 (by omega) (by omega) m2, fun f hf => ?_⟩
      obtain ⟨f, rfl⟩ : ∃ m, f = m + 1 := ⟨f - 1, by omega⟩
      exact EvS_seq (D2 f (by omega)) (T2 f (by omega)) kN3
theorem BD_vloop {rc0 rc1 rc2 : Int32 → Hp → Option Hp} {g : Hp} (B : BDd g) (d : Int32) : lp (fun q : Int32 × Hp => b_Mod_readTest_5 rc0 rc1 rc2 q.1 q.2) (d, g) = some g := by
  refine lp_inr ?_
  show b_Mod_readTest_5 rc0 rc1 rc2 d g = _
  unfold b_Mod_readTest_5
  rw [BD_takes B, Option.bind_some, if_pos (show ((0 : Int32), g).1 = 0 from rfl)]
theorem j_vnil {y : Nat → Nat} {n N dep cnt k s pt : Nat} {rc0 rc1 rc2 rc3 : Int32 → Hp → Option (Int32 × Hp)} {rd0 rd1 rd2 : Int32 → Hp → Option Hp} {h g : Hp} (S : SC y n k s pt h) (R : SR y n N k pt g) (hc : cnt ≤ 400) (h1 : ¬ tC y n k = 4) : JT y n N 0 (EVv y n N dep) k s pt h g (lp (fun q : Int32 × Int32 × Hp => b_Reader_readTest_12 rc0 rc1 rc2 rc3 q.1 q.2.1 q.2.2) (nI dep, nI cnt, h)) (lp (fun q : Int32 × Hp => b_Mod_readTest_5 rd0 rd1 rd2 q.1 q.2) (nI dep, g)) := by
  obtain ⟨hn, hy⟩ := SC_y S
  refine ⟨1, h, g, lp_inr ?_, lp_inr ?_, FC_refl h, FRd_refl g, Or.inr ⟨rfl, k, s, pt, by omega, by omega, by omega, by omega, S, R, fun _ _ => rfl, fun _ v => some v, EvCb_nil, fun f _ => EvSo_nil h1⟩⟩
  · show b_Reader_readTest_12 rc0 rc1 rc2 rc3 (nI dep) (nI cnt) h = _
    unfold b_Reader_readTest_12 b_Reader_readTest_67
    rw [p_isWord S.1 (by decide), Option.bind_some, if_neg (show ¬ tC y n k = wJ 12 from h1), if_pos rfl]
    split <;> rfl
  · show b_Mod_readTest_5 rd0 rd1 rd2 (nI dep) g = _
    unfold b_Mod_readTest_5
    rw [show (4 : Int32) = nI 4 from rfl, p_takes R hy (by decide), if_neg h1, Option.bind_some, if_pos (show ((0 : Int32), g).1 = 0 from rfl)]
theorem j_vloop {y : Nat → Nat} {n N dep fc fr : Nat} (H : JB y n N dep) (hfc : 35 ≤ fc + 4 * dep) (hfr : 26 ≤ fr + 3 * dep) : ∀ (q cnt k s pt : Nat) (h g : Hp), N ≤ k + q → cnt ≤ k → SC y n k s pt h → SR y n N k pt g → s ≤ k → 0 < pt → JT y n N 0 (EVv y n N dep) k s pt h g (lp (fun q : Int32 × Int32 × Hp => b_Reader_readTest_12 (r_Reader_readBoth fc).1 (r_Reader_readBoth fc).2.1 (r_Reader_readBoth fc).2.2.1 (r_Reader_readBoth fc).2.2.2 q.1 q.2.1 q.2.2) (nI dep, nI cnt, h)) (lp (fun q : Int32 × Hp => b_Mod_readTest_5 (r_Mod_readBoth fr).1 (r_Mod_readBoth fr).2.1 (r_Mod_readBoth fr).2.2 q.1 q.2) (nI dep, g)) := by
  intro q
  induction q with
  | zero =>
    intro cnt k s pt h g hq hc S R hs hp
    have kN : k = N := by have := R.2.1; omega
    have c0 : tC y n k = 0 := tC_end (by unfold tS; rw [kN, R.1.2.2.1, if_neg (by omega)])
    exact j_vnil S R (by have := R.1.1; have := R.1.2.1; omega) (by omega)
  | succ q ih =>
    intro cnt k s pt h g hq hc S R hs hp
    obtain ⟨hn, hy⟩ := SC_y S
    have kN := R.2.1
    have NN := R.1.1
    have pb := R.2.2.2.2.2
    by_cases sg : tC y n k = 4
    · have kN2 := SR_lt R (by omega)
      obtain ⟨h0, p1, p2, p3, p4⟩ := c_put S (by omega) 10 0
      obtain ⟨h1, a1, a2, a3, a4⟩ := c_next p2
      obtain ⟨F1, R1⟩ := SR_go R kN2
      obtain ⟨bb, h2, g2, b1, b2, b3, b4, b5⟩ := H fc fr (k + 1) (s + 1) pt h1 _ hfc hfr a2 R1 (by omega)
      have eC : b_Reader_readTest_12 (r_Reader_readBoth fc).1 (r_Reader_readBoth fc).2.1 (r_Reader_readBoth fc).2.2.1 (r_Reader_readBoth fc).2.2.2 (nI dep) (nI cnt) h = if bb = 0 then some (.inr (0, h2)) else (s_Reader_aimHere (nI s) 10 h2).bind fun u5 => some (.inl (nI dep, nI (cnt + 1), u5)) := by
        unfold b_Reader_readTest_12
        rw [if_neg (by rw [show (400 : Int32) = nI 400 from rfl, nI_leI (by decide) (by omega)]; omega), p_isWord S.1 (by decide), Option.bind_some, if_pos (show tC y n k = wJ 12 from sg), if_neg i10, p1, Option.bind_some, a1, Option.bind_some, b1, Option.bind_some, S.2.1, nI_1]
      have eR : b_Mod_readTest_5 (r_Mod_readBoth fr).1 (r_Mod_readBoth fr).2.1 (r_Mod_readBoth fr).2.2 (nI dep) g = some (.inl (nI dep, g2)) := by
        unfold b_Mod_readTest_5
        rw [show (4 : Int32) = nI 4 from rfl, p_takes R hy (by decide), if_pos sg, Option.bind_some, if_neg (show ¬ ((1 : Int32), sI g 84 16 (nI (k + 1))).1 = 0 from i10)]
        show ((r_Mod_readBoth fr).1 (nI dep) (sI g 84 16 (nI (k + 1)))).bind _ = _
        rw [b2, Option.bind_some]
      rw [lp_inl (f := fun q : Int32 × Hp => b_Mod_readTest_5 (r_Mod_readBoth fr).1 (r_Mod_readBoth fr).2.1 (r_Mod_readBoth fr).2.2 q.1 q.2) (s := (nI dep, g)) eR]
      have Fh := FC_trans p3 a3
      rcases b5 with ⟨e0, fl⟩ | ⟨e1, k2, s2, pt2, q1, q2, q3, q4, S2, R2, q5, D, D1, D2⟩
      · rw [if_pos e0] at eC
        exact ⟨0, h2, g2, lp_inr eC, BD_vloop (FL_BD fl) _, FC_trans Fh b3, FRd_trans F1 b4, Or.inl ⟨rfl, fl⟩⟩
      · have pb2 := R2.2.2.2.2.2
        have kN3 := R2.2.1
        obtain ⟨h3, f1, f2, f3, f4⟩ := c_aim (j := s) S2 (by omega) 10
        rw [if_neg (by rw [e1]; exact i10), f1, Option.bind_some] at eC
        rw [lp_inl (f := fun q : Int32 × Int32 × Hp => b_Reader_readTest_12 (r_Reader_readBoth fc).1 (r_Reader_readBoth fc).2.1 (r_Reader_readBoth fc).2.2.1 (r_Reader_readBoth fc).2.2.2 q.1 q.2.1 q.2.2) (s := (nI dep, nI cnt, h)) eC]
        obtain ⟨b6, h4, g4, l1, l2, l3, l4, l5⟩ := ih (cnt + 1) k2 s2 pt2 h3 g2 (by omega) (by omega) f2 R2 (by omega) (by omega)
        refine ⟨b6, h4, g4, l1, l2, FC_trans (FC_trans (FC_trans Fh b3) f3) l3, FRd_trans (FRd_trans F1 b4) l4, ?_⟩
        rcases l5 with l5 | ⟨e3, k3, s3, pt3, m1, m2, m3, m4, S3, R3, m5, tb, T1, T2⟩
        · exact Or.inl l5
        · refine Or.inr ⟨e3, k3, s3, pt3, by omega, by omega, by omega, by omega, S3, R3, fun i hi => ?_, _, EvCb_jmp true (by rw [m5 s (by omega), f4, if_pos rfl]; rfl) (EvC_congr D1 (fun i h5 h6 => by rw [m5 i (by omega), f4, if_neg (by omega)])) T1 (by omega) pb (by omega) m2, fun f hf => EvSo_or sg (D2 f hf) (T2 f hf) kN3⟩
          rw [m5 i (by omega), f4, if_neg (by omega), q5 i (by omega), a4, p4, if_neg (by omega)]
    · exact j_vnil S R (by omega) sg
theorem j_test {y : Nat → Nat} {n N dep : Nat} (hd : dep ≤ 8) (H : JB y n N dep) : JE y n N dep := by
  intro fc fr k s pt h g hfc hfr S R hs
  obtain ⟨fc, rfl⟩ : ∃ m, fc = m + 1 := ⟨fc - 1, by omega⟩
  obtain ⟨fr, rfl⟩ : ∃ m, fr = m + 1 := ⟨fr - 1, by omega⟩
  show JT y n N 1 (EVe y n N dep) k s pt h g (b_Reader_readTest (r_Reader_readBoth fc).1 (r_Reader_readBoth fc).2.1 (r_Reader_readBoth fc).2.2.1 (r_Reader_readBoth fc).2.2.2 (nI dep) h) (b_Mod_readTest (r_Mod_readBoth fr).1 (r_Mod_readBoth fr).2.1 (r_Mod_readBoth fr).2.2 (nI dep) g)
  obtain ⟨bb, h2, g2, b1, b2, b3, b4, b5⟩ := H fc fr k s pt h g (by omega) (by omega) S R hs
  unfold b_Reader_readTest b_Mod_readTest
  rw [b1, Option.bind_some, b2, Option.bind_some]
  rcases b5 with ⟨e0, fl⟩ | ⟨e1, k2, s2, pt2, q1, q2, q3, q4, S2, R2, q5, D, D1, D2⟩
  · rw [e0, if_pos (show ((0 : Int32), h2).1 = 0 from rfl)]
    exact ⟨0, h2, g2, rfl, BD_vloop (FL_BD fl) _, b3, b4, Or.inl ⟨rfl, fl⟩⟩
  · rw [e1, if_neg (show ¬ ((1 : Int32), h2).1 = 0 from i10)]
    have kN3 := R2.2.1
    obtain ⟨b6, h4, g4, l1, l2, l3, l4, l5⟩ := j_vloop (fc := fc) (fr := fr) H (by omega) (by omega) (N - k2) 0 k2 s2 pt2 h2 g2 (by omega) (by omega) S2 R2 (by omega) (by omega)
    refine ⟨b6, h4, g4, l1, l2, FC_trans b3 l3, FRd_trans b4 l4, ?_⟩
    rcases l5 with l5 | ⟨e3, k3, s3, pt3, m1, m2, m3, m4, S3, R3, m5, tb, T1, T2⟩
    · exact Or.inl l5
    · refine Or.inr ⟨e3, k3, s3, pt3, by omega, by omega, by omega, by omega, S3, R3, fun i hi => by rw [m5 i (by omega), q5 i hi], _, EvB_seq (EvC_congr D1 (fun i h5 h6 => m5 i (by omega))) T1 (by omega) (by omega) m2, fun f hf => ?_⟩
      obtain ⟨f, rfl⟩ : ∃ m, f = m + 1 := ⟨f - 1, by omega⟩
      exact EvS_seq (D2 f (by omega)) (T2 f (by omega)) kN3
theorem j_tests {y : Nat → Nat} {n N : Nat} : ∀ (q dep : Nat), dep + q = 8 → JE y n N dep
  | 0, dep, h => j_test (by omega) (j_both (by omega) (j_plain (by omega) (fun z => absurd z (by omega))))
  | q + 1, dep, h => j_test (by omega) (j_both (by omega) (j_plain (by omega) (fun _ => j_tests q (dep + 1) (by omega))))
