/-! the law: both read a comparison -/
def EVo (y : Nat → Nat) (n N dep s s2 pt k k2 : Nat) (c : Nat → Int32) : Prop := ∃ B, EvB B c s s2 pt ∧ ∀ f, 33 ≤ f + 4 * dep → EvS (tC y n) (tV y n) N ((r_Mod_bothOf f).2.2.1) B k k2
def EVl (y : Nat → Nat) (n N dep s s2 pt k k2 : Nat) (c : Nat → Int32) : Prop := ∃ B, EvB B c s s2 pt ∧ ∀ f, 34 ≤ f + 4 * dep → EvS (tC y n) (tV y n) N ((r_Mod_bothOf f).2.1) B k k2
def EVb (y : Nat → Nat) (n N dep s s2 pt k k2 : Nat) (c : Nat → Int32) : Prop := ∃ B, EvB B c s s2 pt ∧ ∀ f, 35 ≤ f + 4 * dep → EvS (tC y n) (tV y n) N ((r_Mod_bothOf f).1) B k k2
def EVe (y : Nat → Nat) (n N dep s s2 pt k k2 : Nat) (c : Nat → Int32) : Prop := ∃ B, EvB B c s s2 pt ∧ ∀ f, 36 ≤ f + 4 * dep → EvS (tC y n) (tV y n) N ((r_Mod_bothOf f).2.2.2) B k k2
def JL (y : Nat → Nat) (n N dep : Nat) : Prop := ∀ (fc fr k s pt : Nat) (h g : Hp), 34 ≤ fc + 4 * dep → 25 ≤ fr + 3 * dep → SC y n k s pt h → SR y n N k pt g → s ≤ k → JT y n N 1 (EVl y n N dep) k s pt h g ((r_Reader_readBoth fc).2.2.1 (nI dep) h) ((r_Mod_readBoth fr).2.1 (nI dep) g)
def JB (y : Nat → Nat) (n N dep : Nat) : Prop := ∀ (fc fr k s pt : Nat) (h g : Hp), 35 ≤ fc + 4 * dep → 26 ≤ fr + 3 * dep → SC y n k s pt h → SR y n N k pt g → s ≤ k → JT y n N 1 (EVb y n N dep) k s pt h g ((r_Reader_readBoth fc).1 (nI dep) h) ((r_Mod_readBoth fr).1 (nI dep) g)
def JE (y : Nat → Nat) (n N dep : Nat) : Prop := ∀ (fc fr k s pt : Nat) (h g : Hp), 36 ≤ fc + 4 * dep → 27 ≤ fr + 3 * dep → SC y n k s pt h → SR y n N k pt g → s ≤ k → JT y n N 1 (EVe y n N dep) k s pt h g ((r_Reader_readBoth fc).2.2.2 (nI dep) h) ((r_Mod_readBoth fr).2.2 (nI dep) g)
theorem BD_pl {rc0 rc1 rc2 : Int32 → Hp → Option Hp} {g : Hp} (B : BDd g) (d : Int32) : lp (fun q : Int32 × Int32 × Hp => b_Mod_readPlain_2 rc0 rc1 rc2 q.1 q.2.1 q.2.2) (d, 0, g) = some g := by
  obtain ⟨p, p1, p2⟩ := B
  refine lp_inr ?_
  show b_Mod_readPlain_2 rc0 rc1 rc2 d 0 g = _
  unfold b_Mod_readPlain_2
  rw [if_pos rfl, p_fine0 p2 p1, Option.bind_some, if_pos rfl]
/-- the class, after the row of nots: what comes at last -/
theorem c_104 {y : Nat → Nat} {n k s pt : Nat} {rc0 rc1 rc2 rc3 : Int32 → Hp → Option (Int32 × Hp)} {h : Hp} {tu : Bool} (S : SC y n k s pt h) (hs : tu = true → s < 400) : ∃ h2 s2, b_Reader_readPlain_104 rc0 rc1 rc2 rc3 (b01 tu) h = some (1, h2) ∧ SC y n k s2 pt h2 ∧ FC h h2 ∧ (∀ i, i < s → hI h2 48 i = hI h 48 i) ∧ s2 = s + (if tu then 1 else 0) ∧ (tu = true → hI h2 48 s = opc 9 0) := by
  unfold b_Reader_readPlain_104 b_Reader_readPlain_115
  cases tu
  · exact ⟨h, s, by rw [if_pos (show b01 false = 0 from rfl)], S, FC_refl h, fun _ _ => rfl, rfl, fun z => by cases z⟩
  · obtain ⟨h2, a1, a2, a3, a4⟩ := c_put S (hs rfl) 9 0
    exact ⟨h2, s + 1, by rw [if_neg (show ¬ b01 true = 0 from i10), a1, Option.bind_some], a2, a3, fun i hi => by rw [a4, if_neg (by omega)], rfl, fun _ => by rw [a4, if_pos rfl]⟩
/-- and what it tells -/
theorem EvB_tu {B : (Nat → Int32) → Option Bool} {c c2 : Nat → Int32} {p q q2 pt : Nat} {tu : Bool} (H : EvB B c p q pt) (e : ∀ i, i < q → c2 i = c i) (eq : q2 = q + (if tu then 1 else 0)) (e9 : tu = true → c2 q = opc 9 0) (hpt : pt ≤ 50) (hpq : p ≤ q) : EvB (fun w => (B w).map fun b => b != tu) c2 p q2 pt := by
  have H2 : EvB B c2 p q pt := EvC_congr H (fun i _ hi => e i hi)
  cases tu
  · have : (fun w => (B w).map fun b => b != false) = B := by
      funext w
      cases B w with
      | none => rfl
      | some b => cases b <;> rfl
    rw [this, eq]
    exact H2
  · have : (fun w => (B w).map fun b => b != true) = (fun w => (B w).map fun b => !b) := by
      funext w
      cases B w with
      | none => rfl
      | some b => cases b <;> rfl
    rw [this, eq]
    exact EvB_not H2 (e9 rfl) hpt hpq
def EVn (y : Nat → Nat) (n N dep kk : Nat) (tu : Bool) (s s2 pt _k k2 : Nat) (c : Nat → Int32) : Prop := ∃ B, EvB B c s s2 pt ∧ ∀ f, 33 ≤ f + 4 * dep → EvS (tC y n) (tV y n) N (PLP (r_Mod_bothOf f).1 (r_Mod_bothOf f).2.1 (r_Mod_bothOf f).2.2.1 (r_Mod_bothOf f).2.2.2 tu) B kk k2
/-- the end of a row of nots: from what stands behind it -/
theorem j_tu {y : Nat → Nat} {n N dep k k0 s pt k2 s2 pt2 : Nat} {tu : Bool} {rc0 rc1 rc2 rc3 : Int32 → Hp → Option (Int32 × Hp)} {h g h2 g2 : Hp} {X : Option (Int32 × Hp)} {Y : Option Hp} (n6 : ¬ tC y n k = 6) (k0k : k0 + (if tu then 1 else 0) ≤ k) (hs : s ≤ k0) (pb : pt ≤ 50) (F1 : FC h h2) (F2 : FRd g g2) (q1 : k + 1 ≤ k2) (q2 : s + 1 ≤ s2) (q3 : s2 + k ≤ s + k2) (q4 : pt + 1 ≤ pt2) (S2 : SC y n k2 s2 pt2 h2) (R2 : SR y n N k2 pt2 g2) (q5 : ∀ i, i < s → hI h2 48 i = hI h 48 i) (E : EVo y n N dep s s2 pt k k2 (hI h2 48)) (eX : X = b_Reader_readPlain_104 rc0 rc1 rc2 rc3 (b01 tu) h2) (eY : Y = some g2) : JT y n N 1 (EVn y n N dep k tu) k0 s pt h g X Y := by
  have kN := R2.2.1
  have NN := R2.1.1
  have n4 := R2.1.2.1
  obtain ⟨h3, s3, a1, a2, a3, a4, a5, a6⟩ := c_104 (rc0 := rc0) (rc1 := rc1) (rc2 := rc2) (rc3 := rc3) (tu := tu) S2 (fun z => by rw [z, if_pos rfl] at k0k; omega)
  obtain ⟨B, B1, B2⟩ := E
  refine ⟨1, h3, g2, eX.trans a1, eY, FC_trans F1 a3, F2, Or.inr ⟨rfl, k2, s3, pt2, by omega, by omega, ?_, by omega, a2, R2, fun i hi => by rw [a4 i (by omega), q5 i hi], _, EvB_tu B1 a4 a5 a6 pb (by omega), fun f hf => EvS_not0 n6 (B2 f hf)⟩⟩
  rw [a5]
  cases tu
  · rw [if_neg (show ¬ false = true by decide)] at k0k ⊢; omega
  · rw [if_pos rfl] at k0k ⊢; omega
theorem j_pos {y : Nat → Nat} {n N dep fc fr k k0 s pt : Nat} {tu : Bool} {h g : Hp} (hd : dep ≤ 8) (H : dep < 8 → JE y n N (dep + 1)) (hfc : 33 ≤ fc + 4 * dep) (hfr : 24 ≤ fr + 3 * dep) (S : SC y n k s pt h) (R : SR y n N k pt g) (n6 : ¬ tC y n k = 6) (k0k : k0 + (if tu then 1 else 0) ≤ k) (hs : s ≤ k0) : JT y n N 1 (EVn y n N dep k tu) k0 s pt h g (b_Reader_readPlain_40 (r_Reader_readBoth fc).1 (r_Reader_readBoth fc).2.1 (r_Reader_readBoth fc).2.2.1 (r_Reader_readBoth fc).2.2.2 (nI dep) (b01 tu) h) (lp (fun q : Int32 × Int32 × Hp => b_Mod_readPlain_2 (r_Mod_readBoth fr).1 (r_Mod_readBoth fr).2.1 (r_Mod_readBoth fr).2.2 q.1 q.2.1 q.2.2) (nI dep, 0, g)) := by
  obtain ⟨fc, rfl⟩ : ∃ m, fc = m + 1 := ⟨fc - 1, by omega⟩
  obtain ⟨hn, hy⟩ := SC_y S
  have kN := R.2.1
  have NN := R.1.1
  have pb := R.2.2.2.2.2
  have cb := tC_b (k := k) hy
  have fb := (tF_b (y := y) (n := n) k).1
  obtain ⟨t1, t2, t3, t4, t5⟩ := R.1
  unfold b_Reader_readPlain_40
  rw [show (40 : Int32) = nI 40 from rfl, p_isOther S.1 (by decide), Option.bind_some]
  by_cases b : tC y n k = 140
  · rw [if_pos (show tC y n k = 100 + 40 from b), if_neg i10]
    have kN2 := SR_lt R (by omega)
    show JT y n N 1 _ k0 s pt h g ((b_Reader_readBracketed (r_Reader_readBoth fc).1 (r_Reader_readBoth fc).2.1 (r_Reader_readBoth fc).2.2.1 (r_Reader_readBoth fc).2.2.2 (nI dep) h).bind _) _
    unfold b_Reader_readBracketed
    by_cases d8 : dep < 8
    · obtain ⟨h1, a1, a2, a3, a4⟩ := c_next S
      obtain ⟨F1, R1⟩ := SR_go R kN2
      obtain ⟨bb, h2, g2, b1, b2, b3, b4, b5⟩ := H d8 fc fr (k + 1) s pt h1 _ (by omega) (by omega) a2 R1 (by omega)
      have eY : lp (fun q : Int32 × Int32 × Hp => b_Mod_readPlain_2 (r_Mod_readBoth fr).1 (r_Mod_readBoth fr).2.1 (r_Mod_readBoth fr).2.2 q.1 q.2.1 q.2.2) (nI dep, 0, g) = s_Mod_must (nI 141) g2 := by
        have : ∀ v, s_Mod_must (nI 141) g2 = some v → lp (fun q : Int32 × Int32 × Hp => b_Mod_readPlain_2 (r_Mod_readBoth fr).1 (r_Mod_readBoth fr).2.1 (r_Mod_readBoth fr).2.2 q.1 q.2.1 q.2.2) (nI dep, 0, g) = some v := fun v ev => by
          refine lp_inr ?_
          show b_Mod_readPlain_2 (r_Mod_readBoth fr).1 (r_Mod_readBoth fr).2.1 (r_Mod_readBoth fr).2.2 (nI dep) 0 g = _
          unfold b_Mod_readPlain_2 b_Mod_readPlain_53 b_Mod_readPlain_133 s_Mod_sign
          rw [if_pos rfl, p_fine1 R.2.2.2.2.1, Option.bind_some, if_neg i10, R.2.2.1, ib_nI (by omega) (by decide), Option.bind_some, show ix (nI k) = k from nI_clamp (by omega), (t5 k kN).1, b, if_pos (show nI 140 = (100 : Int32) + 40 from rfl), if_neg (by rw [show (8 : Int32) = nI 8 from rfl, nI_eq (by omega) (by decide)]; omega), Option.bind_some, if_neg i10, nI_1, nI_1, b2, Option.bind_some, Option.bind_some, show (100 : Int32) + 41 = nI 141 from rfl, ev]
          rfl
        rcases b5 with ⟨e0, fl⟩ | ⟨e1, k2, s2, pt2, q1, q2, q3, q4, S2, R2, -⟩
        · rw [BD_must (FL_BD fl)]; exact this _ (BD_must (FL_BD fl) _)
        · have pm := p_must (c := 141) R2 hy (by decide)
          by_cases z : tC y n k2 = 141
          · rw [if_pos z] at pm; rw [pm]; exact this _ pm
          · rw [if_neg z] at pm; rw [pm]; exact this _ pm
      rw [eY, if_pos (by rw [show (8 : Int32) = nI 8 from rfl, nI_ltI (by omega) (by decide)]; exact d8), a1, Option.bind_some, nI_1, b1, Option.bind_some]
      rcases b5 with ⟨e0, fl⟩ | ⟨e1, k2, s2, pt2, q1, q2, q3, q4, S2, R2, q5, D, D1, D2⟩
      · rw [e0]
        refine ⟨0, h2, g2, ?_, BD_must (FL_BD fl) _, FC_trans a3 b3, FRd_trans F1 b4, Or.inl ⟨rfl, fl⟩⟩
        unfold b_Reader_readBracketed_38 b_Reader_readBracketed_39
        rw [if_pos (show ((0 : Int32), h2).1 = 0 from rfl), bz_0]
        rfl
      · rw [e1, if_neg (show ¬ ((1 : Int32), h2).1 = 0 from i10), p_must R2 hy (by decide)]
        unfold s_Reader_takes b_Reader_readBracketed_38 b_Reader_readBracketed_39
        rw [show (41 : Int32) = nI 41 from rfl, p_isOther S2.1 (by decide), Option.bind_some]
        by_cases cl : tC y n k2 = 141
        · rw [if_pos (show tC y n k2 = 100 + 41 from cl), if_neg i10, if_pos cl]
          obtain ⟨h3, f1, f2, f3, f4⟩ := c_next S2
          obtain ⟨F3, R3⟩ := SR_go R2 (SR_lt R2 (by omega))
          rw [f1, Option.bind_some, Option.bind_some, if_neg (show ¬ ((1 : Int32), h3).1 = 0 from i10), bz_1, Option.bind_some, if_neg (show ¬ ((1 : Int32), h3).1 = 0 from i10)]
          refine j_tu n6 k0k hs pb (FC_trans (FC_trans a3 b3) f3) (FRd_trans (FRd_trans F1 b4) F3) (k2 := k2 + 1) (s2 := s2) (pt2 := pt2) (by omega) q2 (by omega) (by omega) f2 R3 (fun i hi => by rw [f4, q5 i hi, a4]) ⟨D, EvC_congr D1 (fun i _ _ => by rw [f4]), fun f hf => ?_⟩ rfl rfl
          obtain ⟨f, rfl⟩ : ∃ m, f = m + 1 := ⟨f - 1, by omega⟩
          exact EvS_par b (D2 f (by omega))
        · rw [if_neg (show ¬ tC y n k2 = 100 + 41 from cl), if_pos rfl, if_neg cl, c_fail S2, Option.bind_some, bz_0, Option.bind_some, if_pos (show ((0 : Int32), sI h2 47 9 (nI (tF y n k2))).1 = 0 from rfl), bz_0, Option.bind_some, if_pos (show ((0 : Int32), sI h2 47 9 (nI (tF y n k2))).1 = 0 from rfl)]
          exact JT_fail' (kf := k2) hn (FC_trans a3 b3) (FRd_trans F1 b4) rfl rfl
    · rw [if_neg (by rw [show (8 : Int32) = nI 8 from rfl, nI_ltI (by omega) (by decide)]; exact d8), c_fail S, Option.bind_some, bz_0, Option.bind_some, if_pos (show ((0 : Int32), sI h 47 9 (nI (tF y n k))).1 = 0 from rfl)]
      refine JT_fail' (kf := k) hn (FC_refl h) (FRd_refl g) rfl (lp_inr ?_)
      show b_Mod_readPlain_2 (r_Mod_readBoth fr).1 (r_Mod_readBoth fr).2.1 (r_Mod_readBoth fr).2.2 (nI dep) 0 g = _
      unfold b_Mod_readPlain_2 b_Mod_readPlain_53 s_Mod_sign
      rw [if_pos rfl, p_fine1 R.2.2.2.2.1, Option.bind_some, if_neg i10, R.2.2.1, ib_nI (by omega) (by decide), Option.bind_some, show ix (nI k) = k from nI_clamp (by omega), (t5 k kN).1, b, if_pos (show nI 140 = (100 : Int32) + 40 from rfl), if_pos (by rw [show dep = 8 by omega]; rfl), p_faults R, Option.bind_some, p_fine0 (p := tF y n k) (by rw [hI_sI', if_pos ⟨rfl, rfl⟩]) (by omega), Option.bind_some, if_pos rfl]
      rfl
  · rw [if_neg (show ¬ tC y n k = 100 + 40 from b), if_pos rfl]
    obtain ⟨bb, h2, g2, b1, b2, b3, b4, b5⟩ := j_all (y := y) (n := n) (N := N) (8 - dep) dep (by omega) 80 80 k s pt h g (by omega) (by omega) S R (by omega)
    have b1 : s_Reader_readSum (nI dep) h = some (bb, h2) := b1
    have b2 : s_Mod_readSum (nI dep) g = some g2 := b2
    -- the reference, from behind the first sum
    have eY : ∀ (g3 g4 : Hp), ((s_Mod_takes0 (nI 160) g2 = some (1, g3)) ∨ (s_Mod_takes0 (nI 160) g2 = some (0, g2) ∧ s_Mod_takes0 (nI 162) g2 = some (1, g3)) ∨ (s_Mod_takes0 (nI 160) g2 = some (0, g2) ∧ s_Mod_takes0 (nI 162) g2 = some (0, g2) ∧ s_Mod_must (nI 161) g2 = some g3)) → s_Mod_readSum (nI dep) g3 = some g4 → lp (fun q : Int32 × Int32 × Hp => b_Mod_readPlain_2 (r_Mod_readBoth fr).1 (r_Mod_readBoth fr).2.1 (r_Mod_readBoth fr).2.2 q.1 q.2.1 q.2.2) (nI dep, 0, g) = some g4 := fun g3 g4 hcase hsum => by
      have e128 : b_Mod_readPlain_128 (r_Mod_readBoth fr).1 (r_Mod_readBoth fr).2.1 (r_Mod_readBoth fr).2.2 (nI dep) g3 = some g4 := by
        unfold b_Mod_readPlain_128 b_Mod_readPlain_133
        rw [hsum, Option.bind_some]
      refine lp_inr ?_
      show b_Mod_readPlain_2 (r_Mod_readBoth fr).1 (r_Mod_readBoth fr).2.1 (r_Mod_readBoth fr).2.2 (nI dep) 0 g = _
      unfold b_Mod_readPlain_2 s_Mod_sign
      rw [if_pos rfl, p_fine1 R.2.2.2.2.1, Option.bind_some, if_neg i10, R.2.2.1, ib_nI (by omega) (by decide), Option.bind_some, show ix (nI k) = k from nI_clamp (by omega), (t5 k kN).1, if_neg (by rw [show (100 : Int32) + 40 = nI 140 from rfl, nI_eq (by omega) (by decide)]; exact b), b2, Option.bind_some, Option.bind_some, show (100 : Int32) + 60 = nI 160 from rfl]
      rcases hcase with e1 | ⟨e1, e2⟩ | ⟨e1, e2, e3⟩
      · rw [e1, Option.bind_some, if_neg (show ¬ ((1 : Int32), g3).1 = 0 from i10)]
        show inr (b_Mod_readPlain_128 _ _ _ (nI dep) g3) = _
        rw [e128]; rfl
      · rw [e1, Option.bind_some, if_pos (show ((0 : Int32), g2).1 = 0 from rfl), Option.bind_some]
        show (s_Mod_takes0 (nI 162) g2).bind _ = _
        rw [e2, Option.bind_some, if_neg (show ¬ ((1 : Int32), g3).1 = 0 from i10)]
        show inr (b_Mod_readPlain_128 _ _ _ (nI dep) g3) = _
        rw [e128]; rfl
      · rw [e1, Option.bind_some, if_pos (show ((0 : Int32), g2).1 = 0 from rfl), Option.bind_some]
        show (s_Mod_takes0 (nI 162) g2).bind _ = _
        rw [e2, Option.bind_some, if_pos (show ((0 : Int32), g2).1 = 0 from rfl), Option.bind_some]
        show (s_Mod_must (nI 161) g2).bind _ = _
        rw [e3, Option.bind_some, e128]; rfl
    rw [b1, Option.bind_some]
    rcases b5 with ⟨e0, fl⟩ | ⟨e1, k2, s2, pt2, q1, q2, q3, q4, S2, R2, q5, D, D1, D2⟩
    · rw [e0, if_pos (show ((0 : Int32), h2).1 = 0 from rfl)]
      have Bd := FL_BD fl
      exact ⟨0, h2, g2, rfl, eY g2 g2 (Or.inr (Or.inr ⟨BD_takes Bd _, BD_takes Bd _, BD_must Bd _⟩)) (BD_sum Bd _ 77), b3, b4, Or.inl ⟨rfl, fl⟩⟩
    · rw [e1, if_neg (show ¬ ((1 : Int32), h2).1 = 0 from i10)]
      have cb2 := tC_b (k := k2) hy
      have fb2 := (tF_b (y := y) (n := n) k2).1
      have kN3 := R2.2.1
      unfold s_Reader_comparisonHere s_Reader_comparisonHere_43
      rw [show (60 : Int32) = nI 60 from rfl, p_isOther S2.1 (by decide), Option.bind_some, show (62 : Int32) = nI 62 from rfl, p_isOther S2.1 (by decide), Option.bind_some, show (61 : Int32) = nI 61 from rfl, p_isOther S2.1 (by decide), Option.bind_some]
      have pt1 := p_takes (c := 160) R2 hy (by decide)
      have pt3 := p_takes (c := 162) R2 hy (by decide)
      have pm := p_must (c := 161) R2 hy (by decide)
      by_cases any : tC y n k2 = 160 ∨ tC y n k2 = 162 ∨ tC y n k2 = 161
      · obtain ⟨op, o1⟩ : ∃ op, (op = 6 ∧ tC y n k2 = 160) ∨ (op = 7 ∧ tC y n k2 = 162) ∨ (op = 8 ∧ tC y n k2 = 161) := by
          rcases any with z | z | z
          · exact ⟨6, Or.inl ⟨rfl, z⟩⟩
          · exact ⟨7, Or.inr (Or.inl ⟨rfl, z⟩)⟩
          · exact ⟨8, Or.inr (Or.inr ⟨rfl, z⟩)⟩
        have kN4 := SR_lt R2 (by omega)
        obtain ⟨h3, f1, f2, f3, f4⟩ := c_next S2
        obtain ⟨F3, R3⟩ := SR_go R2 kN4
        have pb2 := R2.2.2.2.2.2
        obtain ⟨b6, h4, g4, l1, l2, l3, l4, l5⟩ := j_all (y := y) (n := n) (N := N) (8 - dep) dep (by omega) 80 80 (k2 + 1) s2 pt2 h3 _ (by omega) (by omega) f2 R3 (by omega)
        have l1 : s_Reader_readSum (nI dep) h3 = some (b6, h4) := l1
        have l2 : s_Mod_readSum (nI dep) (sI g2 84 16 (nI (k2 + 1))) = some g4 := l2
        have ecmp : (if (if tC y n k2 = 100 + 60 then (1 : Int32) else 0) = 0 then (if (if tC y n k2 = 100 + 62 then (1 : Int32) else 0) = 0 then (if (if tC y n k2 = 100 + 61 then (1 : Int32) else 0) = 0 then some (-1 : Int32) else some 8) else some 7) else some 6) = some (nI op) := by
          rcases o1 with ⟨o1, o2⟩ | ⟨o1, o2⟩ | ⟨o1, o2⟩ <;> rw [o1, o2] <;> rfl
        rw [ecmp, Option.bind_some, if_neg (nI_m1 (by omega))]
        show JT _ _ _ _ _ _ _ _ _ _ ((s_Reader_advance h2).bind _) _
        rw [f1, Option.bind_some, l1, Option.bind_some]
        have eY2 := eY (sI g2 84 16 (nI (k2 + 1))) g4 (by
          rcases o1 with ⟨o1, o2⟩ | ⟨o1, o2⟩ | ⟨o1, o2⟩
          · exact Or.inl (by rw [pt1, if_pos o2])
          · exact Or.inr (Or.inl ⟨by rw [pt1, if_neg (by omega)], by rw [pt3, if_pos o2]⟩)
          · exact Or.inr (Or.inr ⟨by rw [pt1, if_neg (by omega)], by rw [pt3, if_neg (by omega)], by rw [pm, if_pos o2]⟩)) l2
        rw [eY2]
        rcases l5 with ⟨e0, fl⟩ | ⟨e3, k3, s3, pt3', m1, m2, m3, m4, S3, R3', m5, E, E1, E2⟩
        · rw [e0, if_pos (show ((0 : Int32), h4).1 = 0 from rfl)]
          exact ⟨0, h4, g4, rfl, rfl, FC_trans (FC_trans b3 f3) l3, FRd_trans (FRd_trans b4 F3) l4, Or.inl ⟨rfl, fl⟩⟩
        · rw [e3, if_neg (show ¬ ((1 : Int32), h4).1 = 0 from i10)]
          have kN5 := R3'.2.1
          obtain ⟨h5, u1, u2, u3, u4⟩ := c_put S3 (by omega) (nI op) 0
          show JT _ _ _ _ _ _ _ _ _ _ ((s_Reader_put (nI op) 0 h4).bind _) _
          rw [u1, Option.bind_some]
          refine j_tu n6 k0k hs pb (FC_trans (FC_trans (FC_trans b3 f3) l3) u3) (FRd_trans (FRd_trans b4 F3) l4) (k2 := k3) (s2 := s3 + 1) (pt2 := pt3') (by omega) (by omega) (by omega) (by omega) u2 R3' (fun i hi => by rw [u4, if_neg (by omega), m5 i (by omega), f4, q5 i hi]) ⟨_, EvC_cmp (op := op) (EvC_congr D1 (fun i h5 h6 => by rw [u4, if_neg (by omega), m5 i (by omega), f4])) (EvC_congr E1 (fun i h5 h6 => by rw [u4, if_neg (by omega)])) (by rw [u4, if_pos rfl]) (by omega) (by omega) (by omega) pb2 (by omega) (by omega), fun f hf => ?_⟩ rfl rfl
          obtain ⟨f, rfl⟩ : ∃ m, f = m + 1 := ⟨f - 1, by omega⟩
          exact EvS_cmp b (D2 100 (by omega)) o1 (E2 100 (by omega)) kN4
      · have ecmp : (if (if tC y n k2 = 100 + 60 then (1 : Int32) else 0) = 0 then (if (if tC y n k2 = 100 + 62 then (1 : Int32) else 0) = 0 then (if (if tC y n k2 = 100 + 61 then (1 : Int32) else 0) = 0 then some (-1 : Int32) else some 8) else some 7) else some 6) = some (-1 : Int32) := by
          rw [if_neg (show ¬ tC y n k2 = 100 + 60 from fun z => any (Or.inl z)), if_neg (show ¬ tC y n k2 = 100 + 62 from fun z => any (Or.inr (Or.inl z))), if_neg (show ¬ tC y n k2 = 100 + 61 from fun z => any (Or.inr (Or.inr z)))]
          rfl
        rw [ecmp, Option.bind_some, if_pos rfl]
        show JT _ _ _ _ _ _ _ _ _ _ ((s_Reader_fail h2).bind _) _
        rw [c_fail S2, Option.bind_some, bz_0]
        have Bd : BDd (sI g2 84 18 (nI (tF y n k2))) := ⟨tF y n k2, by omega, by rw [hI_sI', if_pos ⟨rfl, rfl⟩]⟩
        refine JT_fail' (kf := k2) hn b3 b4 rfl (eY (sI g2 84 18 (nI (tF y n k2))) _ (Or.inr (Or.inr ⟨by rw [pt1, if_neg (fun z => any (Or.inl z))], by rw [pt3, if_neg (fun z => any (Or.inr (Or.inl z)))], by rw [pm, if_neg (fun z => any (Or.inr (Or.inr z)))]⟩)) (BD_sum Bd _ 77))
