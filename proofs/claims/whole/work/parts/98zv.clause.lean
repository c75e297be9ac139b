/-! the law: both read a clause -/
def tst (B : (Nat → Int32) → Option Bool) (D : (Nat → Int32) → Option Int32) (w : Nat → Int32) : Option Int32 := match B w with
  | some true => D w
  | _ => none
def CLB (y : Nat → Nat) (n N : Nat) (c : Nat → Int32) (fr se te k e : Nat) (E : (Nat → Int32) → Option Int32) : Prop := ∃ D j, EvC D c fr se 0 ∧ EvR (tC y n) (tV y n) N s_Mod_sumOf D (k + 1) j ∧ j ≤ N ∧ ((te = se ∧ ¬ tC y n j = 3 ∧ e = j ∧ E = D) ∨ (se < te ∧ tC y n j = 3 ∧ ∃ B, EvB B c se te 0 ∧ EvS (tC y n) (tV y n) N s_Mod_testOf B (j + 1) e ∧ E = tst B D))
theorem EvC_mono {D : (Nat → Int32) → Option Int32} {c : Nat → Int32} {p q pt pt2 : Nat} (H : EvC D c p q pt) (h : pt2 ≤ pt) : EvC D c p q pt2 := fun h a to t C ht => H h a to t C (by omega)
theorem CLB_congr {y : Nat → Nat} {n N : Nat} {c c2 : Nat → Int32} {fr se te k e : Nat} {E : (Nat → Int32) → Option Int32} (H : CLB y n N c fr se te k e E) (h2 : se ≤ te) (e1 : ∀ i, i < te → c2 i = c i) : CLB y n N c2 fr se te k e E := by
  obtain ⟨D, j, d1, d2, d3, d4⟩ := H
  refine ⟨D, j, EvC_congr d1 (fun i _ hi => e1 i (by omega)), d2, d3, ?_⟩
  rcases d4 with d4 | ⟨x1, x2, B, b1, b2, b3⟩
  · exact Or.inl d4
  · exact Or.inr ⟨x1, x2, B, EvC_congr b1 (fun i _ hi => e1 i hi), b2, b3⟩
def sR3 (j : Nat) : Bool := decide (j = 47) || decide (j = 48) || decide (j = 49)
theorem sRd_3 (j : Nat) (h : sR3 j = false) : sRd j = false := by
  unfold sR3 at h
  rw [Bool.or_eq_false_iff] at h
  exact h.1
theorem c_72 {y : Nat → Nat} {n k s pt m : Nat} {h : Hp} (S : SC y n k s pt h) (hm : m < 12) (e4 : hI h 47 4 = nI (4 * m)) (fl : Bool) (x1 x2 : Int32) : ∃ h2, s_Reader_readClause_72 (b01 fl) x1 x2 h = some (1, h2) ∧ SC y n k s pt h2 ∧ eqO sR3 h h2 ∧ hI h2 48 = hI h 48 ∧ hI h2 47 4 = nI (4 * m + 4) ∧ (∀ i, i < 4 * m → hI h2 49 i = hI h 49 i) ∧ hI h2 49 (4 * m) = nI (if fl then 0 else 1) ∧ hI h2 49 (4 * m + 1) = x1 ∧ hI h2 49 (4 * m + 2) = x2 ∧ hI h2 49 (4 * m + 3) = nI s := by
  have e108 : ∀ hd : Int32, s_Reader_readClause_108 x1 x2 hd (nI (4 * m)) h = some (1, sI (sI (sI (sI (sI h 49 (4 * m) hd) 49 (4 * m + 1) x1) 49 (4 * m + 2) x2) 49 (4 * m + 3) (nI s)) 47 4 (nI (4 * m + 4))) := fun hd => by
    have g1 : hI (sI h 49 (4 * m) hd) 47 = hI h 47 := hI_sI_ne (by decide)
    have g2 : hI (sI (sI h 49 (4 * m) hd) 49 (4 * m + 1) x1) 47 = hI h 47 := by rw [hI_sI_ne (by decide)]; exact g1
    have g3 : hI (sI (sI (sI h 49 (4 * m) hd) 49 (4 * m + 1) x1) 49 (4 * m + 2) x2) 47 = hI h 47 := by rw [hI_sI_ne (by decide)]; exact g2
    have g4 : hI (sI (sI (sI (sI h 49 (4 * m) hd) 49 (4 * m + 1) x1) 49 (4 * m + 2) x2) 49 (4 * m + 3) (nI s)) 47 = hI h 47 := by rw [hI_sI_ne (by decide)]; exact g3
    unfold s_Reader_readClause_108
    rw [ib_nI (by omega) (by decide), show ix (nI (4 * m)) = 4 * m from nI_clamp (by omega), lt_eq, g1, e4, nI_1, ib_nI (by omega) (by decide), show ix (nI (4 * m + 1)) = 4 * m + 1 from nI_clamp (by omega), lt_eq, g2, e4, show (2 : Int32) = nI 2 from rfl, nI_add, ib_nI (by omega) (by decide), show ix (nI (4 * m + 2)) = 4 * m + 2 from nI_clamp (by omega), lt_eq, g3, e4, show (3 : Int32) = nI 3 from rfl, nI_add, ib_nI (by omega) (by decide), show ix (nI (4 * m + 3)) = 4 * m + 3 from nI_clamp (by omega), S.2.1, lt_eq, g4, e4, show (4 : Int32) = nI 4 from rfl, nI_add]
  refine ⟨sI (sI (sI (sI (sI h 49 (4 * m) (nI (if fl then 0 else 1))) 49 (4 * m + 1) x1) 49 (4 * m + 2) x2) 49 (4 * m + 3) (nI s)) 47 4 (nI (4 * m + 4)), ?_, ⟨CK_fr S.1 ?_ ?_ (fun i h1 h2 => ?_), ?_, ?_, ?_⟩, eqO_sI (eqO_sI (eqO_sI (eqO_sI (eqO_sI (eqO_refl _ _) (by decide)) (by decide)) (by decide)) (by decide)) (by decide), ?_, ?_, fun i hi => ?_, ?_, ?_, ?_, ?_⟩
  · unfold s_Reader_readClause_72
    rw [e4, if_pos (by rw [show (48 : Int32) - 4 = nI 44 from rfl, nI_leI (by omega) (by decide)]; omega), e108, e108]
    cases fl <;> rfl
  · simp only [hI_sI_ne (show (45 : Nat) ≠ 47 by decide), hI_sI_ne (show (45 : Nat) ≠ 49 by decide)]
  · simp only [hI_sI_ne (show (46 : Nat) ≠ 47 by decide), hI_sI_ne (show (46 : Nat) ≠ 49 by decide)]
  · rw [hI_sI', if_neg (by omega)]
    simp only [hI_sI_ne (show (47 : Nat) ≠ 49 by decide)]
  · rw [hI_sI', if_neg (by omega)]
    simp only [hI_sI_ne (show (47 : Nat) ≠ 49 by decide)]
    exact S.2.1
  · rw [hI_sI', if_neg (by omega)]
    simp only [hI_sI_ne (show (47 : Nat) ≠ 49 by decide)]
    exact S.2.2.1
  · rw [hI_sI', if_neg (by omega)]
    simp only [hI_sI_ne (show (47 : Nat) ≠ 49 by decide)]
    exact S.2.2.2
  · simp only [hI_sI_ne (show (48 : Nat) ≠ 47 by decide), hI_sI_ne (show (48 : Nat) ≠ 49 by decide)]
  · rw [hI_sI', if_pos ⟨rfl, rfl⟩]
  · rw [hI_sI_ne (by decide), hI_sI', if_neg (by omega), hI_sI', if_neg (by omega), hI_sI', if_neg (by omega), hI_sI', if_neg (by omega)]
  · rw [hI_sI_ne (by decide), hI_sI', if_neg (by omega), hI_sI', if_neg (by omega), hI_sI', if_neg (by omega), hI_sI', if_pos ⟨rfl, rfl⟩]
  · rw [hI_sI_ne (by decide), hI_sI', if_neg (by omega), hI_sI', if_neg (by omega), hI_sI', if_pos ⟨rfl, rfl⟩]
  · rw [hI_sI_ne (by decide), hI_sI', if_neg (by omega), hI_sI', if_pos ⟨rfl, rfl⟩]
  · rw [hI_sI_ne (by decide), hI_sI', if_pos ⟨rfl, rfl⟩]
theorem BD_13 {g : Hp} (B : BDd g) : s_Mod_readClause_13 g = some g := by
  have e : s_Mod_readSum 0 g = some g := BD_sum B 0 77
  unfold s_Mod_readClause_13 s_Mod_readClause_31
  rw [e, Option.bind_some, BD_takes B, Option.bind_some, if_pos (show ((0 : Int32), g).1 = 0 from rfl)]
theorem BD_test {g : Hp} (B : BDd g) (d : Int32) : s_Mod_readTest d g = some g := by
  have pl : ∀ f, (r_Mod_readBoth (f + 1)).2.1 d g = some g := fun f => by
    show b_Mod_readPlain _ _ _ d g = _
    unfold b_Mod_readPlain
    have e1 : b_Mod_readPlain_2 (r_Mod_readBoth f).1 (r_Mod_readBoth f).2.1 (r_Mod_readBoth f).2.2 d 1 g = some (.inl (d, 0, g)) := by
      unfold b_Mod_readPlain_2
      rw [if_neg i10, BD_takes B, Option.bind_some]
    exact (lp_inl (f := fun q : Int32 × Int32 × Hp => b_Mod_readPlain_2 (r_Mod_readBoth f).1 (r_Mod_readBoth f).2.1 (r_Mod_readBoth f).2.2 q.1 q.2.1 q.2.2) (s := (d, 1, g)) e1).trans (BD_pl B d)
  have bo : ∀ f, (r_Mod_readBoth (f + 2)).1 d g = some g := fun f => by
    show b_Mod_readBoth _ _ _ d g = _
    unfold b_Mod_readBoth
    rw [pl f, Option.bind_some]
    exact BD_uloop B d
  show b_Mod_readTest _ _ _ d g = _
  unfold b_Mod_readTest
  rw [bo 77, Option.bind_some]
  exact BD_vloop B d
theorem j_clause {y : Nat → Nat} {n N k s pt m : Nat} {h g : Hp} (S : SC y n k s pt h) (R : SR y n N k pt g) (hs : s ≤ k) (hm : m < 12) (e4 : hI h 47 4 = nI (4 * m)) : ∃ b h2 g2, s_Reader_readClause h = some (b, h2) ∧ s_Mod_readClause g = some g2 ∧ eqO sR3 h h2 ∧ FRd g g2 ∧ ((b = 0 ∧ FL h2 g2) ∨ (b = 1 ∧ ∃ k2 s2 pt2 hd se E, k < k2 ∧ s ≤ se ∧ se ≤ s2 ∧ s2 ≤ k2 ∧ SC y n k2 s2 pt2 h2 ∧ SR y n N k2 pt2 g2 ∧ (∀ i, i < s → hI h2 48 i = hI h 48 i) ∧ hI h2 47 4 = nI (4 * m + 4) ∧ (∀ i, i < 4 * m → hI h2 49 i = hI h 49 i) ∧ hd < 2 ∧ tC y n k = hd + 1 ∧ hI h2 49 (4 * m) = nI hd ∧ hI h2 49 (4 * m + 1) = nI s ∧ hI h2 49 (4 * m + 2) = nI se ∧ hI h2 49 (4 * m + 3) = nI s2 ∧ CLB y n N (hI h2 48) s se s2 k k2 E)) := by
  obtain ⟨hn, hy⟩ := SC_y S
  have kN := R.2.1
  have fb := (tF_b (y := y) (n := n) k).1
  unfold s_Reader_readClause s_Mod_readClause
  rw [p_isWord S.1 (by decide), Option.bind_some, p_isWord S.1 (by decide), Option.bind_some, show (1 : Int32) = nI 1 from rfl, p_takes R hy (by decide), show wJ 0 = 1 from rfl, show wJ 1 = 2 from rfl]
  by_cases z : tC y n k = 1 ∨ tC y n k = 2
  · have kN2 := SR_lt R (by omega)
    obtain ⟨h1, a1, a2, a3, a4⟩ := c_next S
    obtain ⟨F1, R1⟩ := SR_go R kN2
    have pm := p_must (c := 2) R hy (by decide)
    have eX : (if (if tC y n k = 1 then nI 1 else 0) = 0 then (if (if tC y n k = 2 then nI 1 else 0) = 0 then (s_Reader_fail h).bind fun u3 => bz u3.1 <| some (u3.1, u3.2) else s_Reader_readClause_25 (if tC y n k = 1 then nI 1 else 0) h) else s_Reader_readClause_25 (if tC y n k = 1 then nI 1 else 0) h) = s_Reader_readClause_25 (b01 (decide (tC y n k = 1))) h := by
      by_cases w : tC y n k = 1
      · rw [if_pos w, if_neg (show ¬ nI 1 = 0 from i10), decide_eq_true w]; rfl
      · rw [if_neg w, if_pos rfl, if_pos (show tC y n k = 2 by omega), if_neg (show ¬ nI 1 = 0 from i10), decide_eq_false w]; rfl
    have eY : ((if tC y n k = 1 then some (nI 1, sI g 84 16 (nI (k + 1))) else some (0, g)).bind fun u1 => if u1.1 = 0 then (s_Mod_must 2 u1.2).bind fun u2 => s_Mod_readClause_13 u2 else s_Mod_readClause_13 u1.2) = s_Mod_readClause_13 (sI g 84 16 (nI (k + 1))) := by
      by_cases w : tC y n k = 1
      · rw [if_pos w, Option.bind_some, if_neg (show ¬ (nI 1, sI g 84 16 (nI (k + 1))).1 = 0 from i10)]
      · rw [if_neg w, Option.bind_some, if_pos (show ((0 : Int32), g).1 = 0 from rfl)]
        show (s_Mod_must (nI 2) g).bind _ = _
        rw [pm, if_pos (show tC y n k = 2 by omega), Option.bind_some]
    rw [show (fun u1 : Int32 × Hp => if u1.1 = 0 then (s_Mod_must 2 u1.2).bind fun u2 => s_Mod_readClause_13 u2 else s_Mod_readClause_13 u1.2) = (fun u1 : Int32 × Hp => if u1.1 = 0 then (s_Mod_must 2 u1.2).bind fun u2 => s_Mod_readClause_13 u2 else s_Mod_readClause_13 u1.2) from rfl] at eY
    have goal : ∃ b h2 g2, s_Reader_readClause_25 (b01 (decide (tC y n k = 1))) h = some (b, h2) ∧ s_Mod_readClause_13 (sI g 84 16 (nI (k + 1))) = some g2 ∧ eqO sR3 h h2 ∧ FRd g g2 ∧ ((b = 0 ∧ FL h2 g2) ∨ (b = 1 ∧ ∃ k2 s2 pt2 hd se E, k < k2 ∧ s ≤ se ∧ se ≤ s2 ∧ s2 ≤ k2 ∧ SC y n k2 s2 pt2 h2 ∧ SR y n N k2 pt2 g2 ∧ (∀ i, i < s → hI h2 48 i = hI h 48 i) ∧ hI h2 47 4 = nI (4 * m + 4) ∧ (∀ i, i < 4 * m → hI h2 49 i = hI h 49 i) ∧ hd < 2 ∧ tC y n k = hd + 1 ∧ hI h2 49 (4 * m) = nI hd ∧ hI h2 49 (4 * m + 1) = nI s ∧ hI h2 49 (4 * m + 2) = nI se ∧ hI h2 49 (4 * m + 3) = nI s2 ∧ CLB y n N (hI h2 48) s se s2 k k2 E)) := by
      obtain ⟨bb, h2, g2, b1, b2, b3, b4, b5⟩ := j_all (y := y) (n := n) (N := N) 8 0 (by omega) 80 80 (k + 1) s pt h1 _ (by omega) (by omega) a2 R1 (by omega)
      have b1 : s_Reader_readSum 0 h1 = some (bb, h2) := b1
      have b2 : s_Mod_readSum 0 (sI g 84 16 (nI (k + 1))) = some g2 := b2
      unfold s_Reader_readClause_25 s_Mod_readClause_13 s_Mod_readClause_31
      rw [a1, Option.bind_some, b1, Option.bind_some, b2, Option.bind_some, a2.2.1]
      have Fh := FC_trans a3 b3
      have Fg := FRd_trans F1 b4
      rcases b5 with ⟨e0, fl⟩ | ⟨e1, k2, s2, pt2, q1, q2, q3, q4, S2, R2, q5, D, D1, D2⟩
      · rw [e0, if_pos (show ((0 : Int32), h2).1 = 0 from rfl), BD_takes (FL_BD fl), Option.bind_some, if_pos (show ((0 : Int32), g2).1 = 0 from rfl)]
        exact ⟨0, h2, g2, rfl, rfl, eqO_mono Fh.1 sRd_3, Fg, Or.inl ⟨rfl, fl⟩⟩
      · have e42 : hI h2 47 4 = nI (4 * m) := by rw [Fh.2]; exact e4
        have kN3 := R2.2.1
        have hd2 : (if decide (tC y n k = 1) then 0 else 1) < 2 ∧ tC y n k = (if decide (tC y n k = 1) then 0 else 1) + 1 := by
          by_cases w : tC y n k = 1
          · rw [decide_eq_true w, if_pos rfl]; omega
          · rw [decide_eq_false w, if_neg (by decide)]; omega
        rw [e1, if_neg (show ¬ ((1 : Int32), h2).1 = 0 from i10)]
        show ∃ b h2_1 g2_1, ((s_Reader_isWord 9 h2).bind _) = _ ∧ _
        rw [p_isWord S2.1 (by decide), Option.bind_some, show (3 : Int32) = nI 3 from rfl, p_takes R2 hy (by decide), show wJ 9 = 3 from rfl, S2.2.1]
        by_cases f : tC y n k2 = 3
        · rw [if_pos f, if_neg i10, if_pos f, Option.bind_some, if_neg (show ¬ ((1 : Int32), sI g2 84 16 (nI (k2 + 1))).1 = 0 from i10)]
          obtain ⟨h3, f1, f2, f3, f4⟩ := c_next S2
          obtain ⟨F3, R3⟩ := SR_go R2 (SR_lt R2 (by omega))
          obtain ⟨b6, h4, g4, l1, l2, l3, l4, l5⟩ := j_tests (y := y) (n := n) (N := N) 8 0 (by omega) 80 80 (k2 + 1) s2 pt2 h3 _ (by omega) (by omega) f2 R3 (by omega)
          have l1 : s_Reader_readTest 0 h3 = some (b6, h4) := l1
          have l2 : s_Mod_readTest 0 (sI g2 84 16 (nI (k2 + 1))) = some g4 := l2
          have Fh2 := FC_trans (FC_trans Fh f3) l3
          have Fg2 := FRd_trans (FRd_trans Fg F3) l4
          rw [f1, Option.bind_some, l1, Option.bind_some]
          show ∃ b h2_1 g2_1, _ ∧ ((s_Mod_readTest 0 (sI g2 84 16 (nI (k2 + 1)))).bind _) = _ ∧ _
          rw [l2, Option.bind_some]
          rcases l5 with ⟨e0, fl⟩ | ⟨e3, k3, s3, pt3, m1, m2, m3, m4, S3, R4, m5, B, B1, B2⟩
          · rw [e0, if_pos (show ((0 : Int32), h4).1 = 0 from rfl)]
            exact ⟨0, h4, g4, rfl, rfl, eqO_mono Fh2.1 sRd_3, Fg2, Or.inl ⟨rfl, fl⟩⟩
          · rw [e3, if_neg (show ¬ ((1 : Int32), h4).1 = 0 from i10)]
            have e44 : hI h4 47 4 = nI (4 * m) := by rw [Fh2.2]; exact e4
            obtain ⟨h5, u1, u2, u3, u4, u5, u6, u7, u8, u9, u10⟩ := c_72 S3 hm e44 (decide (tC y n k = 1)) (nI s) (nI s2)
            have kN5 := R4.2.1
            refine ⟨1, h5, g4, u1, rfl, eqO_trans (eqO_mono Fh2.1 sRd_3) u3, Fg2, Or.inr ⟨rfl, k3, s3, pt3, _, s2, tst B D, by omega, by omega, by omega, by omega, u2, R4, fun i hi => ?_, u5, fun i hi => ?_, hd2.1, hd2.2, u7, u8, u9, u10, ?_⟩⟩
            · rw [u4, m5 i (by omega), f4, q5 i hi, a4]
            · rw [u6 i hi, (Fh2.1.2 49 (by decide)).1]
            · refine ⟨D, k2, EvC_mono (EvC_congr D1 (fun i _ hi => by rw [u4, m5 i (by omega), f4])) (by omega), D2 100 (by omega), kN3, Or.inr ⟨by omega, f, B, EvC_mono (EvC_congr B1 (fun i _ hi => by rw [u4])) (by omega), B2 70 (by omega), rfl⟩⟩
        · rw [if_neg f, if_pos rfl, if_neg f, Option.bind_some, if_pos (show ((0 : Int32), g2).1 = 0 from rfl)]
          obtain ⟨h5, u1, u2, u3, u4, u5, u6, u7, u8, u9, u10⟩ := c_72 S2 hm e42 (decide (tC y n k = 1)) (nI s) (nI s2)
          refine ⟨1, h5, g2, u1, rfl, eqO_trans (eqO_mono Fh.1 sRd_3) u3, Fg, Or.inr ⟨rfl, k2, s2, pt2, _, s2, D, by omega, by omega, by omega, by omega, u2, R2, fun i hi => ?_, u5, fun i hi => ?_, hd2.1, hd2.2, u7, u8, u9, u10, ?_⟩⟩
          · rw [u4, q5 i hi, a4]
          · rw [u6 i hi, (Fh.1.2 49 (by decide)).1]
          · exact ⟨D, k2, EvC_mono (EvC_congr D1 (fun i _ hi => by rw [u4])) (by omega), D2 100 (by omega), kN3, Or.inl ⟨rfl, f, rfl, rfl⟩⟩
    obtain ⟨b, h2, g2, g1, g3, g4⟩ := goal
    exact ⟨b, h2, g2, eX.trans g1, eY.trans g3, g4⟩
  · have n1 : ¬ tC y n k = 1 := fun u => z (Or.inl u)
    have n2 : ¬ tC y n k = 2 := fun u => z (Or.inr u)
    rw [if_neg n1, if_pos rfl, if_neg n2, if_pos rfl, if_neg n1, Option.bind_some, if_pos (show ((0 : Int32), g).1 = 0 from rfl), c_fail S, Option.bind_some, bz_0]
    have pm := p_must (c := 2) R hy (by decide)
    rw [if_neg n2] at pm
    have Bd : BDd (sI g 84 18 (nI (tF y n k))) := ⟨tF y n k, by omega, by rw [hI_sI', if_pos ⟨rfl, rfl⟩]⟩
    refine ⟨0, _, sI g 84 18 (nI (tF y n k)), rfl, ?_, eqO_sI (eqO_refl _ _) (by decide), FRd_sI (FRd_refl g) (by decide), Or.inl ⟨rfl, tF y n k, by omega, by rw [hI_sI', if_pos ⟨rfl, rfl⟩], by rw [hI_sI', if_pos ⟨rfl, rfl⟩]⟩⟩
    show (s_Mod_must (nI 2) g).bind _ = _
    rw [pm, Option.bind_some]
    exact BD_13 Bd
