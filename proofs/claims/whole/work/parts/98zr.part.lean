/-! the law: both read a part -/
def EVp (y : Nat → Nat) (n N dep s s2 pt k k2 : Nat) (c : Nat → Int32) : Prop := ∃ D, EvC D c s s2 pt ∧ ∀ f, 25 ≤ f + 3 * dep → EvR (tC y n) (tV y n) N ((r_Mod_partOf f).1) D k k2
def EVm (y : Nat → Nat) (n N dep s s2 pt k k2 : Nat) (c : Nat → Int32) : Prop := ∃ D, EvC D c s s2 pt ∧ ∀ f, 26 ≤ f + 3 * dep → EvR (tC y n) (tV y n) N ((r_Mod_partOf f).2.2) D k k2
def EVs (y : Nat → Nat) (n N dep s s2 pt k k2 : Nat) (c : Nat → Int32) : Prop := ∃ D, EvC D c s s2 pt ∧ ∀ f, 27 ≤ f + 3 * dep → EvR (tC y n) (tV y n) N ((r_Mod_partOf f).2.1) D k k2
def JP (y : Nat → Nat) (n N dep : Nat) : Prop := ∀ (fc fr k s pt : Nat) (h g : Hp), 25 ≤ fc + 3 * dep → 25 ≤ fr + 3 * dep → SC y n k s pt h → SR y n N k pt g → s ≤ k → JT y n N 1 (EVp y n N dep) k s pt h g ((r_Reader_readPart fc).1 (nI dep) h) ((r_Mod_readPart fr).1 (nI dep) g)
def JM (y : Nat → Nat) (n N dep : Nat) : Prop := ∀ (fc fr k s pt : Nat) (h g : Hp), 26 ≤ fc + 3 * dep → 26 ≤ fr + 3 * dep → SC y n k s pt h → SR y n N k pt g → s ≤ k → JT y n N 1 (EVm y n N dep) k s pt h g ((r_Reader_readPart fc).2.2 (nI dep) h) ((r_Mod_readPart fr).2.2 (nI dep) g)
def JS (y : Nat → Nat) (n N dep : Nat) : Prop := ∀ (fc fr k s pt : Nat) (h g : Hp), 27 ≤ fc + 3 * dep → 27 ≤ fr + 3 * dep → SC y n k s pt h → SR y n N k pt g → s ≤ k → JT y n N 1 (EVs y n N dep) k s pt h g ((r_Reader_readPart fc).2.1 (nI dep) h) ((r_Mod_readPart fr).2.1 (nI dep) g)
theorem SC_y {y : Nat → Nat} {n k s pt : Nat} {h : Hp} (S : SC y n k s pt h) : n ≤ 400 ∧ ∀ i, i < n → y i < 256 := ⟨S.1.1.1, fun i hi => (S.1.1.2.2 i hi).1⟩
theorem bind_eta {α : Type} (x : Option α) : (x.bind fun u => some u) = x := by cases x <;> rfl
theorem p_rpart {y : Nat → Nat} {n N k pt dep : Nat} {rc0 rc1 rc2 : Int32 → Hp → Option Hp} {g : Hp} (S : SR y n N k pt g) (hy : ∀ i, i < n → y i < 256) (hd : dep ≤ 8) : b_Mod_readPart rc0 rc1 rc2 (nI dep) g = if tC y n k = 191 then (if dep = 8 then some (sI g 84 18 (nI (tF y n k))) else (rc1 (nI (dep + 1)) (sI g 84 16 (nI (k + 1)))).bind fun u2 => s_Mod_must (nI 193) u2) else if (tC y n k = 50 ∧ tV y n k ≤ 1000) ∨ (7 ≤ tC y n k ∧ tC y n k ≤ 13) then (if pt = 50 then some (sI (sI g 84 18 (nI (tF y n k))) 84 17 (nI 51)) else some (sI (sI g 84 17 (nI (pt + 1))) 84 16 (nI (k + 1)))) else some (sI g 84 18 (nI (tF y n k))) := by
  obtain ⟨t1, t2, t3, t4, t5⟩ := S.1
  have kN := S.2.1
  have pb := S.2.2.2.2.2
  have cb := tC_b (k := k) hy
  have vb := tV_b (y := y) (n := n) (k := k)
  have fb := (tF_b (y := y) (n := n) k).1
  have eF := p_faults S
  have eB : BDd (sI g 84 18 (nI (tF y n k))) := ⟨tF y n k, by omega, by rw [hI_sI', if_pos ⟨rfl, rfl⟩]⟩
  have e114 : b_Mod_readPart_114 rc0 rc1 rc2 g = some (sI g 84 18 (nI (tF y n k))) := by
    unfold b_Mod_readPart_114 b_Mod_readPart_118
    rw [eF, Option.bind_some]
  have e107 : b_Mod_readPart_107 rc0 rc1 rc2 g = if pt = 50 then some (sI (sI g 84 18 (nI (tF y n k))) 84 17 (nI 51)) else some (sI (sI g 84 17 (nI (pt + 1))) 84 16 (nI (k + 1))) := by
    unfold b_Mod_readPart_107 b_Mod_readPart_118 s_Mod_leaf s_Mod_leaf_13 s_Mod_leaf_40
    rw [bind_eta, S.2.2.2.1]
    by_cases z : pt = 50
    · obtain ⟨p, p1, p2⟩ := eB
      have e17 : hI (sI g 84 18 (nI (tF y n k))) 84 17 + 1 = nI 51 := by rw [hI_sI', if_neg (by omega), S.2.2.2.1, z]; rfl
      rw [if_pos (by rw [z]; rfl), if_pos z, eF, Option.bind_some, e17, p_fine0 (p := p) (by rw [hI_sI', if_neg (by omega)]; exact p2) p1, Option.bind_some, if_pos rfl]
    · rw [if_neg (by rw [show (50 : Int32) = nI 50 from rfl, nI_eq (by omega) (by decide)]; exact z), if_neg z, nI_1, p_fine1 (by rw [hI_sI', if_neg (by omega)]; exact S.2.2.2.2.1), Option.bind_some, if_neg i10, lt_eq, hI_sI', if_neg (by omega), S.2.2.1, nI_1]
  have e95 : b_Mod_readPart_95 rc0 rc1 rc2 (nI (tC y n k)) g = if 7 ≤ tC y n k ∧ tC y n k ≤ 13 then (if pt = 50 then some (sI (sI g 84 18 (nI (tF y n k))) 84 17 (nI 51)) else some (sI (sI g 84 17 (nI (pt + 1))) 84 16 (nI (k + 1)))) else some (sI g 84 18 (nI (tF y n k))) := by
    unfold b_Mod_readPart_95
    rw [e114, e107]
    by_cases z : tC y n k < 7
    · rw [if_pos (by rw [show (7 : Int32) = nI 7 from rfl, nI_ltI (by omega) (by decide)]; exact z), if_neg (show ¬ (7 ≤ tC y n k ∧ tC y n k ≤ 13) by omega)]
    · rw [if_neg (by rw [show (7 : Int32) = nI 7 from rfl, nI_ltI (by omega) (by decide)]; exact z)]
      by_cases w : 13 < tC y n k
      · rw [if_pos (by rw [show (13 : Int32) = nI 13 from rfl, nI_ltI (by decide) (by omega)]; exact w), if_neg (show ¬ (7 ≤ tC y n k ∧ tC y n k ≤ 13) by omega)]
      · rw [if_neg (by rw [show (13 : Int32) = nI 13 from rfl, nI_ltI (by decide) (by omega)]; exact w), if_pos (show 7 ≤ tC y n k ∧ tC y n k ≤ 13 by omega)]
  unfold b_Mod_readPart s_Mod_sign
  rw [p_fine1 S.2.2.2.2.1, Option.bind_some, if_neg i10, S.2.2.1, ib_nI (by omega) (by decide), Option.bind_some, show ix (nI k) = k from nI_clamp (by omega), (t5 k kN).1, (t5 k kN).2.1, e95]
  by_cases b : tC y n k = 191
  · rw [if_pos (by rw [b]; rfl), if_pos b]
    unfold b_Mod_readPart_37 b_Mod_readPart_118 s_Mod_sign
    by_cases d : dep = 8
    · obtain ⟨p, p1, p2⟩ := eB
      rw [if_pos (by rw [d]; rfl), if_pos d, eF, Option.bind_some, p_fine0 p2 p1, Option.bind_some, if_pos rfl]
    · rw [if_neg (by rw [show (8 : Int32) = nI 8 from rfl, nI_eq (by omega) (by decide)]; exact d), if_neg d, p_fine1 S.2.2.2.2.1, Option.bind_some, if_neg i10, nI_1, S.2.2.1, nI_1]
      congr 1
      funext u2
      rw [Option.bind_some]
      exact bind_eta _
  · rw [if_neg (by rw [show (100 : Int32) + 91 = nI 191 from rfl, nI_eq (by omega) (by decide)]; exact b), if_neg b]
    by_cases c : tC y n k = 50
    · rw [if_pos (by rw [c]; rfl), ib_nI (by omega) (by decide), e107]
      by_cases v : tV y n k ≤ 1000
      · rw [if_pos (by rw [show (1000 : Int32) = nI 1000 from rfl, nI_leI (by omega) (by decide)]; exact v), if_pos (Or.inl ⟨c, v⟩)]
      · rw [if_neg (by rw [show (1000 : Int32) = nI 1000 from rfl, nI_leI (by omega) (by decide)]; exact v), if_neg (show ¬ (7 ≤ tC y n k ∧ tC y n k ≤ 13) by omega), if_neg (by omega)]
    · rw [if_neg (by rw [show (50 : Int32) = nI 50 from rfl, nI_eq (by omega) (by decide)]; exact c)]
      by_cases v : 7 ≤ tC y n k ∧ tC y n k ≤ 13
      · rw [if_pos v, if_pos (Or.inr v)]
      · rw [if_neg v, if_neg (by omega)]
theorem j_part {y : Nat → Nat} {n N dep : Nat} (hd : dep ≤ 8) (H : dep < 8 → JS y n N (dep + 1)) : JP y n N dep := by
  intro fc fr k s pt h g hfc hfr S R hsk
  obtain ⟨fc, rfl⟩ : ∃ m, fc = m + 1 := ⟨fc - 1, by omega⟩
  obtain ⟨fr, rfl⟩ : ∃ m, fr = m + 1 := ⟨fr - 1, by omega⟩
  obtain ⟨hn, hy⟩ := SC_y S
  have kN := R.2.1
  have NN := R.1.1
  have pb := R.2.2.2.2.2
  have cb := tC_b (k := k) hy
  have vb := tV_b (y := y) (n := n) (k := k)
  show JT y n N 1 (EVp y n N dep) k s pt h g (b_Reader_readPart (r_Reader_readPart fc).1 (r_Reader_readPart fc).2.1 (r_Reader_readPart fc).2.2 (nI dep) h) (b_Mod_readPart (r_Mod_readPart fr).1 (r_Mod_readPart fr).2.1 (r_Mod_readPart fr).2.2 (nI dep) g)
  rw [p_rpart R hy hd]
  unfold b_Reader_readPart
  rw [show (91 : Int32) = nI 91 from rfl, p_isOther S.1 (by decide), Option.bind_some]
  by_cases b : tC y n k = 191
  · rw [if_pos (show tC y n k = 100 + 91 from b), if_neg i10, if_pos b]
    have kN2 := SR_lt R (by omega)
    by_cases d8 : dep < 8
    · rw [if_pos (by rw [show (8 : Int32) = nI 8 from rfl, nI_ltI (by omega) (by decide)]; exact d8), if_neg (by omega)]
      obtain ⟨h1, a1, a2, a3, a4⟩ := c_next S
      obtain ⟨F1, R1⟩ := SR_go R kN2
      obtain ⟨bb, h2, g2, b1, b2, b3, b4, b5⟩ := H d8 fc fr (k + 1) s pt h1 _ (by omega) (by omega) a2 R1 (by omega)
      rw [a1, Option.bind_some, nI_1, b1, Option.bind_some, b2, Option.bind_some]
      rcases b5 with ⟨e0, fl⟩ | ⟨e1, k2, s2, pt2, q1, q2, q3, q4, S2, R2, q5, D, D1, D2⟩
      · rw [e0]
        refine ⟨0, h2, g2, ?_, BD_must (FL_BD fl) _, FC_trans a3 b3, FRd_trans F1 b4, Or.inl ⟨rfl, fl⟩⟩
        unfold b_Reader_readPart_47 b_Reader_readPart_48
        rw [if_pos rfl, bz_0]
      · rw [e1, if_neg (show ¬ ((1 : Int32), h2).1 = 0 from i10), p_must R2 hy (by decide)]
        unfold s_Reader_takes
        show JT _ _ _ _ _ _ _ _ _ _ (((s_Reader_isOther 93 h2).bind _).bind _) _
        rw [show (93 : Int32) = nI 93 from rfl, p_isOther S2.1 (by decide), Option.bind_some]
        by_cases cl : tC y n k2 = 193
        · rw [if_pos (show tC y n k2 = 100 + 93 from cl), if_neg i10, if_pos cl]
          obtain ⟨h3, f1, f2, f3, f4⟩ := c_next S2
          obtain ⟨F3, R3⟩ := SR_go R2 (SR_lt R2 (by omega))
          rw [f1, Option.bind_some, Option.bind_some, if_neg (show ¬ ((1 : Int32), h3).1 = 0 from i10)]
          refine ⟨1, h3, _, ?_, rfl, FC_trans (FC_trans a3 b3) f3, FRd_trans (FRd_trans F1 b4) F3, Or.inr ⟨rfl, k2 + 1, s2, pt2, by omega, by omega, by omega, by omega, f2, R3, fun i hi => ?_, D, EvC_congr D1 (fun i _ _ => by rw [f4]), fun f hf => ?_⟩⟩
          · unfold b_Reader_readPart_48
            rw [bz_1]
          · rw [f4, q5 i hi, a4]
          · obtain ⟨f, rfl⟩ : ∃ m, f = m + 1 := ⟨f - 1, by omega⟩
            exact EvR_brk b (D2 f (by omega))
        · rw [if_neg (show ¬ tC y n k2 = 100 + 93 from cl), if_pos rfl, if_neg cl, c_fail S2, Option.bind_some, bz_0, Option.bind_some, if_pos (show ((0 : Int32), sI h2 47 9 (nI (tF y n k2))).1 = 0 from rfl)]
          refine JT_fail' (kf := k2) hn (FC_trans a3 b3) (FRd_trans F1 b4) ?_ rfl
          unfold b_Reader_readPart_47 b_Reader_readPart_48
          rw [bz_0]
    · rw [if_neg (by rw [show (8 : Int32) = nI 8 from rfl, nI_ltI (by omega) (by decide)]; exact d8), if_pos (by omega), c_fail S, Option.bind_some, bz_0]
      exact JT_fail' (kf := k) hn (FC_refl h) (FRd_refl g) rfl rfl
  · rw [if_neg (show ¬ tC y n k = 100 + 91 from b), if_pos rfl, if_neg b]
    have leaf : ∀ (sg : Int32) (w : Nat), w ≤ 1001 → (w ≤ 1000 ↔ (tC y n k = 50 ∧ tV y n k ≤ 1000) ∨ (7 ≤ tC y n k ∧ tC y n k ≤ 13)) → (w ≤ 1000 → (sg = 0 ∧ tC y n k = 50 ∧ w = tV y n k) ∨ (sg = 1 ∧ w < 7 ∧ tC y n k = 7 + w)) → JT y n N 1 (EVp y n N dep) k s pt h g (b_Reader_readPart_82 (r_Reader_readPart fc).1 (r_Reader_readPart fc).2.1 (r_Reader_readPart fc).2.2 sg (nI w) h) (if (tC y n k = 50 ∧ tV y n k ≤ 1000) ∨ (7 ≤ tC y n k ∧ tC y n k ≤ 13) then (if pt = 50 then some (sI (sI g 84 18 (nI (tF y n k))) 84 17 (nI 51)) else some (sI (sI g 84 17 (nI (pt + 1))) 84 16 (nI (k + 1)))) else some (sI g 84 18 (nI (tF y n k)))) := by
      intro sg w hw iff cs
      have e103 : b_Reader_readPart_103 (r_Reader_readPart fc).1 (r_Reader_readPart fc).2.1 (r_Reader_readPart fc).2.2 h = some (0, sI h 47 9 (nI (tF y n k))) := by
        unfold b_Reader_readPart_103
        rw [c_fail S, Option.bind_some, bz_0]
      unfold b_Reader_readPart_82
      rw [e103, if_neg (by rw [Int32.not_lt]; exact nI_le (a := 0) (Nat.zero_le _) (by omega))]
      by_cases z : w ≤ 1000
      · rw [if_neg (by rw [show (1000 : Int32) = nI 1000 from rfl, nI_ltI (by decide) (by omega)]; omega), if_pos (iff.mp z), S.2.2.1]
        have c0 : ¬ tC y n k = 0 := by rcases cs z with ⟨-, x, -⟩ | ⟨-, -, x⟩ <;> omega
        by_cases p : pt = 50
        · rw [if_neg (by rw [show (50 : Int32) = nI 50 from rfl, nI_ltI (by omega) (by decide)]; omega), if_pos p]
          exact JT_fail (kf := k) hn (FC_refl h) (FRd_refl g) rfl rfl
        · rw [if_pos (by rw [show (50 : Int32) = nI 50 from rfl, nI_ltI (by omega) (by decide)]; omega), if_neg p, nI_1]
          have kN2 := SR_lt R c0
          have S1 : SC y n k s (pt + 1) (sI h 47 5 (nI (pt + 1))) := ⟨CK_fr S.1 (by rw [hI_sI_ne (by decide)]) (by rw [hI_sI_ne (by decide)]) (fun i h1 h2 => by rw [hI_sI', if_neg (by omega)]), by rw [hI_sI', if_neg (by omega)]; exact S.2.1, by rw [hI_sI', if_pos ⟨rfl, rfl⟩], by rw [hI_sI', if_neg (by omega)]; exact S.2.2.2⟩
          have F1 : FC h (sI h 47 5 (nI (pt + 1))) := ⟨eqO_sI (eqO_refl _ _) (by decide), by rw [hI_sI', if_neg (by omega)]⟩
          obtain ⟨h2, a1, a2, a3, a4⟩ := c_put S1 (by omega) sg (nI w)
          obtain ⟨h3, b1, b2, b3, b4⟩ := c_next a2
          have G1 : FRd g (sI (sI g 84 17 (nI (pt + 1))) 84 16 (nI (k + 1))) := FRd_sI (FRd_sI (FRd_refl g) (by decide)) (by decide)
          have R1 : SR y n N (k + 1) (pt + 1) (sI (sI g 84 17 (nI (pt + 1))) 84 16 (nI (k + 1))) := ⟨TKr_fr R.1 G1, kN2, by rw [hI_sI', if_pos ⟨rfl, rfl⟩], by rw [hI_sI', if_neg (by omega), hI_sI', if_pos ⟨rfl, rfl⟩], by rw [hI_sI', if_neg (by omega), hI_sI', if_neg (by omega)]; exact R.2.2.2.2.1, by omega⟩
          have ecd : hI h3 48 s = opc sg (nI w) := by rw [b4, a4, if_pos rfl]
          rw [a1, Option.bind_some, b1, Option.bind_some]
          refine ⟨1, h3, _, rfl, rfl, FC_trans (FC_trans F1 a3) b3, G1, Or.inr ⟨rfl, k + 1, s + 1, pt + 1, by omega, by omega, by omega, by omega, b2, R1, fun i hi => by rw [b4, a4, if_neg (by omega), hI_sI_ne (by decide)], ?_⟩⟩
          rcases cs z with ⟨x1, x2, x3⟩ | ⟨x1, x2, x3⟩
          · refine ⟨fun _ => some (nI w), EvC_num (by omega) (by rw [ecd, x1]) pb, fun f hf => ?_⟩
            obtain ⟨f, rfl⟩ : ∃ m, f = m + 1 := ⟨f - 1, by omega⟩
            rw [x3]
            exact EvR_num x2
          · refine ⟨fun v => some (v w), EvC_word x2 (by rw [ecd, x1]) pb, fun f hf => ?_⟩
            obtain ⟨f, rfl⟩ : ∃ m, f = m + 1 := ⟨f - 1, by omega⟩
            exact EvR_word x3 x2
      · rw [if_pos (by rw [show (1000 : Int32) = nI 1000 from rfl, nI_ltI (by decide) (by omega)]; omega), if_neg (fun u => z (iff.mpr u))]
        exact JT_fail' (kf := k) hn (FC_refl h) (FRd_refl g) rfl rfl
    unfold b_Reader_readPart_62
    rw [S.1.2.1]
    by_cases z : tS y n k = 2
    · have c50 := tC_num z
      rw [z, if_pos (show nI 2 = 2 from rfl), p_number S.1 z, Option.bind_some]
      exact leaf 0 (min (tV y n k) 1001) (by omega) (by omega) (fun u => Or.inl ⟨rfl, c50, by omega⟩)
    · have c50 : ¬ tC y n k = 50 := by
        rcases tS_e y n k with ⟨x, -⟩ | ⟨-, -, x | x | x⟩
        · rw [tC_end x]; omega
        · have := tC_wordb x; omega
        · exact absurd x z
        · rw [tC_oth x]; omega
      have ne2 : ¬ nI (tS y n k) = 2 := by rw [show (2 : Int32) = nI 2 from rfl, nI_eq (by rcases tS_e y n k with ⟨x, -⟩ | ⟨-, -, x | x | x⟩ <;> omega) (by decide)]; exact z
      rw [if_neg ne2, if_neg ne2, p_wordHere S.1, Option.bind_some]
      by_cases w : 7 ≤ tC y n k ∧ tC y n k ≤ 13
      · rw [if_pos w]
        exact leaf 1 (tC y n k - 7) (by omega) (by omega) (fun u => Or.inr ⟨rfl, by omega, by omega⟩)
      · rw [if_neg w, if_neg (show ¬ ((tC y n k = 50 ∧ tV y n k ≤ 1000) ∨ (7 ≤ tC y n k ∧ tC y n k ≤ 13)) by omega)]
        refine JT_fail' (kf := k) hn (FC_refl h) (FRd_refl g) ?_ rfl
        unfold b_Reader_readPart_82 b_Reader_readPart_103
        rw [if_pos (by decide), c_fail S, Option.bind_some, bz_0]
