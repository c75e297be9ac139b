/-! the law: what the reference's tokens tell, comparisons -/
theorem EvS_par {ck vl : Nat → Nat} {N k k1 : Nat} {rc0 rc1 rc2 rc3 : Int32 → Hp → Option (Int32 × Hp)} {B : (Nat → Int32) → Option Bool} (e : ck k = 140) (H1 : EvS ck vl N rc3 B (k + 1) k1) : EvS ck vl N (b_Mod_positiveOf rc0 rc1 rc2 rc3) B k (k1 + 1) := by
  intro h t br lv G
  have hkN : k < N := GS_lt G (by omega)
  obtain ⟨F1, G1⟩ := GS_go G hkN
  obtain ⟨x, g, a1, a2, a3, a4⟩ := H1 _ t br lv G1
  rw [FRr_95 F1] at a4
  refine ⟨x, sI g 84 19 (hI g 84 19 + 1), ?_, FRr_trans F1 (FRr_sI a2 (by decide)), by rw [hI_sI', if_pos ⟨rfl, rfl⟩, a3, nI_1]; rfl, by rw [hI_sI', if_neg (by omega)]; exact a4⟩
  unfold b_Mod_positiveOf s_Mod_sign
  rw [Option.bind_some, show (100 : Int32) + 40 = nI 140 from rfl, p_passes G (by decide), if_pos e, Option.bind_some, if_neg (show ¬ ((1 : Int32), sI h 84 19 (hI h 84 19 + 1)).1 = 0 from i10)]
  show (rc3 (b01 lv) (sI h 84 19 (hI h 84 19 + 1))).bind _ = _
  rw [a1, Option.bind_some, bz_b01]
theorem toI64_inj {a b : Int32} (h : a.toInt64 = b.toInt64) : a = b := by
  have := congrArg Int64.toInt h
  rw [Int32.toInt_toInt64, Int32.toInt_toInt64] at this
  exact Int32.toInt_inj.mp this
theorem EvS_cmp {ck vl : Nat → Nat} {N k k1 k2 op : Nat} {rc0 rc1 rc2 rc3 : Int32 → Hp → Option (Int32 × Hp)} {D1 D2 : (Nat → Int32) → Option Int32} (e : ¬ ck k = 140) (H1 : EvR ck vl N s_Mod_sumOf D1 k k1) (ho : (op = 6 ∧ ck k1 = 160) ∨ (op = 7 ∧ ck k1 = 162) ∨ (op = 8 ∧ ck k1 = 161)) (H2 : EvR ck vl N s_Mod_sumOf D2 (k1 + 1) k2) (hk1 : k1 < N) : EvS ck vl N (b_Mod_positiveOf rc0 rc1 rc2 rc3) (fun w => (D1 w).bind fun u => (D2 w).bind fun v => some (cpN op u v)) k k2 := by
  intro h t br lv G
  show ∃ (x : Bool) (h2 : Hp), b_Mod_positiveOf rc0 rc1 rc2 rc3 (b01 lv) h = some (b01 x, h2) ∧ FRr h h2 ∧ hI h2 84 19 = nI (400 * t + k2) ∧ ORb ((D1 (wf (hI h 95))).bind fun u => (D2 (wf (hI h 95))).bind fun v => some (cpN op u v)) lv br x (hI h2 84 21)
  obtain ⟨x, g, a1, a2, a3, a4⟩ := H1 h t br lv G
  have kb := G.1.2.2.2.1 k1
  have Kg := KT_fr G.1 a2
  have go : ∀ br1 : Bool, hI g 84 21 = b01 br1 → ∃ x2 g2, s_Mod_sumOf (b01 lv) (sI g 84 19 (hI g 84 19 + 1)) = some (x2, g2) ∧ FRr h g2 ∧ hI g2 84 19 = nI (400 * t + k2) ∧ OR64 (D2 (wf (hI h 95))) lv br1 x2 (hI g2 84 21) := fun br1 eb => by
    obtain ⟨F1, G1⟩ := GS_go ⟨Kg, Nat.le_of_lt hk1, a3, eb⟩ hk1
    obtain ⟨x2, g2, b1, b2, b3, b4⟩ := H2 _ t br1 lv G1
    rw [FRr_95 F1, FRr_95 a2] at b4
    exact ⟨x2, g2, b1, FRr_trans a2 (FRr_trans F1 b2), b3, b4⟩
  have stp : ∀ (x2 : Int64) (g2 : Hp) (br2 : Bool), s_Mod_sumOf (b01 lv) (sI g 84 19 (hI g 84 19 + 1)) = some (x2, g2) → hI g2 84 21 = b01 br2 → b_Mod_positiveOf rc0 rc1 rc2 rc3 (b01 lv) h = some (b01 (lv && !br2 && (if op = 6 then decide (x < x2) else if op = 7 then decide (x2 < x) else decide (x = x2))), g2) := fun x2 g2 br2 e1 e2 => by
    have k125 : b_Mod_positiveOf_125 rc0 rc1 rc2 rc3 g2 = some (b01 false, g2) := by unfold b_Mod_positiveOf_125 b_Mod_positiveOf_126; rw [bz_0]; rfl
    have k121 : b_Mod_positiveOf_121 rc0 rc1 rc2 rc3 g2 = some (b01 true, g2) := by unfold b_Mod_positiveOf_121 b_Mod_positiveOf_126; rw [bz_1]; rfl
    unfold b_Mod_positiveOf s_Mod_sign
    rw [Option.bind_some, show (100 : Int32) + 40 = nI 140 from rfl, p_passes G (by decide), if_neg e, Option.bind_some, if_pos (show ((0 : Int32), h).1 = 0 from rfl)]
    show (s_Mod_sumOf (b01 lv) h).bind _ = _
    rw [a1, Option.bind_some]
    show (s_Mod_codeAt (hI g 84 19) g).bind _ = _
    have ec : s_Mod_codeAt (hI g 84 19) g = some (nI (ck k1)) := by rw [a3]; exact p_codeAt Kg (Nat.le_of_lt hk1)
    rw [ec, Option.bind_some]
    show (s_Mod_sumOf (b01 lv) (sI g 84 19 (hI g 84 19 + 1))).bind _ = _
    rw [e1, Option.bind_some, k125, k121]
    cases lv
    · rw [if_pos (show b01 false = 0 from rfl), Bool.false_and, Bool.false_and]
    · rw [if_neg (show ¬ b01 true = 0 from i10), Bool.true_and]
      show (if hI g2 84 21 = 0 then _ else _) = _
      rw [e2]
      cases br2
      · rw [if_pos (show b01 false = 0 from rfl), Bool.not_false, Bool.true_and, Option.bind_some]
        rcases ho with ⟨o1, o2⟩ | ⟨o1, o2⟩ | ⟨o1, o2⟩
        · rw [o2, if_pos (show nI 160 = (100 : Int32) + 60 from rfl), if_pos o1]
          by_cases z : x < x2
          · rw [if_neg (fun u => absurd z (Int64.not_lt.mpr ((lg_cmp_ge _ _).mp u))), decide_eq_true z]
          · rw [if_pos ((lg_cmp_ge _ _).mpr (Int64.not_lt.mp z)), decide_eq_false z]
        · rw [o2, if_neg (show ¬ nI 162 = (100 : Int32) + 60 by decide), Option.bind_some, if_pos (show nI 162 = (100 : Int32) + 62 from rfl), if_neg (show ¬ op = 6 by omega), if_pos o1]
          by_cases z : x2 < x
          · rw [if_neg (fun u => absurd z (Int64.not_lt.mpr ((lg_cmp_le _ _).mp u))), decide_eq_true z]
          · rw [if_pos ((lg_cmp_le _ _).mpr (Int64.not_lt.mp z)), decide_eq_false z]
        · rw [o2, if_neg (show ¬ nI 161 = (100 : Int32) + 60 by decide), Option.bind_some, if_neg (show ¬ nI 161 = (100 : Int32) + 62 by decide), if_neg (show ¬ op = 6 by omega), if_neg (show ¬ op = 7 by omega)]
          by_cases z : x = x2
          · rw [if_pos ((lg_cmp_eq _ _).mpr z), decide_eq_true z]
          · rw [if_neg (fun u => z ((lg_cmp_eq _ _).mp u)), decide_eq_false z]
      · rw [if_neg (show ¬ b01 true = 0 from i10), Bool.not_true, Bool.false_and]
  rcases a4 with ⟨l1, l2, v, l3, l4, l5⟩ | ⟨l1, l2, l3⟩
  · obtain ⟨x2, g2, b1, b2, b3, b4⟩ := go false l5
    rcases b4 with ⟨m1, m2, u, m3, m4, m5⟩ | ⟨m1, m2, m3⟩
    · refine ⟨_, g2, stp x2 g2 false b1 m5, b2, b3, Or.inl ⟨l1, l2, ?_, m5⟩⟩
      rw [l3, m3, l1]
      show some (cpN op v u) = some _
      rw [l4, m4]
      rfl
    · refine ⟨_, g2, stp x2 g2 _ b1 m3, b2, b3, Or.inr ⟨fun z1 z2 => ?_, ?_⟩⟩
      · rw [l3, m1 z1 rfl]; rfl
      · rw [m3, l1, Bool.or_true, Bool.or_true]
  · obtain ⟨x2, g2, b1, b2, b3, b4⟩ := go (br || lv) l3
    rcases b4 with ⟨m1, m2, -⟩ | ⟨-, m2, m3⟩
    · rw [m1, Bool.or_true] at m2; cases m2
    · refine ⟨_, g2, stp x2 g2 _ b1 m3, b2, b3, Or.inr ⟨fun z1 z2 => by rw [l1 z1 z2]; rfl, ?_⟩⟩
      rw [m3, Bool.or_assoc, Bool.or_self]
noncomputable def PLP (rc0 rc1 rc2 rc3 : Int32 → Hp → Option (Int32 × Hp)) (tu : Bool) (v : Int32) (h : Hp) : Option (Int32 × Hp) := lp (fun q : Int32 × Int32 × Hp => b_Mod_plainOf_2 rc0 rc1 rc2 rc3 q.1 q.2.1 q.2.2) (v, b01 tu, h)
theorem EvS_not0 {ck vl : Nat → Nat} {N k k2 : Nat} {rc0 rc1 rc2 rc3 : Int32 → Hp → Option (Int32 × Hp)} {B : (Nat → Int32) → Option Bool} {tu : Bool} (e : ¬ ck k = 6) (H1 : EvS ck vl N rc2 B k k2) : EvS ck vl N (PLP rc0 rc1 rc2 rc3 tu) (fun w => (B w).map fun b => b != tu) k k2 := by
  intro h t br lv G
  obtain ⟨x, g, a1, a2, a3, a4⟩ := H1 h t br lv G
  refine ⟨x != tu, g, lp_inr ?_, a2, a3, ?_⟩
  · show b_Mod_plainOf_2 rc0 rc1 rc2 rc3 (b01 lv) (b01 tu) h = _
    unfold b_Mod_plainOf_2 b_Mod_plainOf_38
    rw [show (6 : Int32) = nI 6 from rfl, p_passes G (by decide), if_neg e, Option.bind_some, if_pos (show ((0 : Int32), h).1 = 0 from rfl)]
    show (rc2 (b01 lv) h).bind _ = _
    rw [a1, Option.bind_some, bz_0, bz_1]
    cases x <;> cases tu <;> rfl
  · show ORb ((B (wf (hI h 95))).map fun b => b != tu) lv br (x != tu) (hI g 84 21)
    rcases a4 with ⟨l1, l2, l3, l5⟩ | ⟨l1, l3⟩
    · exact Or.inl ⟨l1, l2, by rw [l3]; rfl, l5⟩
    · exact Or.inr ⟨fun z1 z2 => by rw [l1 z1 z2]; rfl, l3⟩
theorem EvS_notS {ck vl : Nat → Nat} {N k k2 : Nat} {rc0 rc1 rc2 rc3 : Int32 → Hp → Option (Int32 × Hp)} {B : (Nat → Int32) → Option Bool} {tu : Bool} (e : ck k = 6) (H1 : EvS ck vl N (PLP rc0 rc1 rc2 rc3 (!tu)) B (k + 1) k2) : EvS ck vl N (PLP rc0 rc1 rc2 rc3 tu) B k k2 := by
  intro h t br lv G
  have hkN : k < N := GS_lt G (by omega)
  obtain ⟨F1, G1⟩ := GS_go G hkN
  obtain ⟨x, g, a1, a2, a3, a4⟩ := H1 _ t br lv G1
  rw [FRr_95 F1] at a4
  refine ⟨x, g, ?_, FRr_trans F1 a2, a3, a4⟩
  rw [← a1]
  refine lp_inl ?_
  show b_Mod_plainOf_2 rc0 rc1 rc2 rc3 (b01 lv) (b01 tu) h = _
  unfold b_Mod_plainOf_2 b_Mod_plainOf_20
  rw [show (6 : Int32) = nI 6 from rfl, p_passes G (by decide), if_pos e, Option.bind_some, if_neg (show ¬ ((1 : Int32), sI h 84 19 (hI h 84 19 + 1)).1 = 0 from i10)]
  cases tu <;> rfl
