/-! the law: what the reference's tokens tell, parts and tests -/
theorem i10 : ¬ (1 : Int32) = 0 := by decide
theorem EvR_num {ck vl : Nat → Nat} {N k : Nat} {rc0 rc1 rc2 : Int32 → Hp → Option (Int64 × Hp)} (e : ck k = 50) : EvR ck vl N (b_Mod_partOf rc0 rc1 rc2) (fun _ => some (nI (vl k))) k (k + 1) := by
  intro h t br lv G
  have hkN : k < N := GS_lt G (by omega)
  obtain ⟨t6, n4, -, -, -, kk⟩ := G.1
  obtain ⟨F1, G1⟩ := GS_go G hkN
  have e86 : hI (sI h 84 19 (hI h 84 19 + 1)) 86 (2598 + 400 * t + k) = nI (vl k) := by rw [hI_sI_ne (by decide)]; exact (kk k hkN).2
  have ei : (2598 : Int32) + nI (400 * t + (k + 1)) - 1 = nI (2598 + 400 * t + k) := by
    rw [show (2598 : Int32) = nI 2598 from rfl, nI_add, show (1 : Int32) = nI 1 from rfl, nI_sub (by omega)]
    congr 1
    omega
  have stp : b_Mod_partOf rc0 rc1 rc2 (b01 lv) h = some (if lv = true ∧ br = false then (nI (vl k)).toInt64 else 0, sI h 84 19 (hI h 84 19 + 1)) := by
    unfold b_Mod_partOf b_Mod_partOf_60 b_Mod_partOf_97 s_Mod_sign
    rw [Option.bind_some, show (100 : Int32) + 91 = nI 191 from rfl, p_passes G (by decide), if_neg (by omega), Option.bind_some, if_pos (show ((0 : Int32), h).1 = 0 from rfl)]
    show (s_Mod_codeAt (hI h 84 19) h).bind _ = _
    rw [G.2.2.1, p_codeAt G.1 G.2.1, Option.bind_some, e, ← G.2.2.1, lt_eq, G1.2.2.2]
    cases lv
    · rw [if_pos (show b01 false = 0 from rfl), if_neg (fun z : false = true ∧ br = false => by cases z.1)]
    · rw [if_neg (show ¬ b01 true = 0 by decide)]
      cases br
      · rw [if_pos (show b01 false = 0 from rfl), if_pos (show nI 50 = 50 from rfl), G1.2.2.1, ei, ib_nI (by omega) (by decide), show ix (nI (2598 + 400 * t + k)) = 2598 + 400 * t + k from nI_clamp (by omega), e86, if_pos ⟨rfl, rfl⟩]
      · rw [if_neg (show ¬ b01 true = 0 by decide), if_neg (fun z : true = true ∧ true = false => by cases z.2)]
  refine ⟨_, _, stp, F1, G1.2.2.1, ?_⟩
  rw [G1.2.2.2]
  by_cases z : lv = true ∧ br = false
  · rw [if_pos z]; exact Or.inl ⟨z.1, z.2, _, rfl, rfl, by rw [z.2]⟩
  · rw [if_neg z]
    refine Or.inr ⟨fun z1 z2 => absurd ⟨z1, z2⟩ z, rfl, ?_⟩
    cases lv
    · rw [Bool.or_false]
    · cases br
      · exact absurd ⟨rfl, rfl⟩ z
      · rfl
theorem EvR_word {ck vl : Nat → Nat} {N k j : Nat} {rc0 rc1 rc2 : Int32 → Hp → Option (Int64 × Hp)} (e : ck k = 7 + j) (hj : j < 7) : EvR ck vl N (b_Mod_partOf rc0 rc1 rc2) (fun w => some (w j)) k (k + 1) := by
  intro h t br lv G
  have hkN : k < N := GS_lt G (by omega)
  obtain ⟨F1, G1⟩ := GS_go G hkN
  have ei : nI (7 + j) - (7 : Int32) = nI j := by
    rw [show (7 : Int32) = nI 7 from rfl, nI_sub (by omega)]
    congr 1
    omega
  have stp : b_Mod_partOf rc0 rc1 rc2 (b01 lv) h = some (if lv = true ∧ br = false then (hI h 95 j).toInt64 else 0, sI h 84 19 (hI h 84 19 + 1)) := by
    unfold b_Mod_partOf b_Mod_partOf_60 b_Mod_partOf_97 s_Mod_sign
    rw [Option.bind_some, show (100 : Int32) + 91 = nI 191 from rfl, p_passes G (by decide), if_neg (by omega), Option.bind_some, if_pos (show ((0 : Int32), h).1 = 0 from rfl)]
    show (s_Mod_codeAt (hI h 84 19) h).bind _ = _
    rw [G.2.2.1, p_codeAt G.1 G.2.1, Option.bind_some, e, ← G.2.2.1, lt_eq, G1.2.2.2]
    cases lv
    · rw [if_pos (show b01 false = 0 from rfl), if_neg (fun z : false = true ∧ br = false => by cases z.1)]
    · rw [if_neg (show ¬ b01 true = 0 by decide)]
      cases br
      · rw [if_pos (show b01 false = 0 from rfl), if_neg (by rw [show (50 : Int32) = nI 50 from rfl, nI_eq (by omega) (by decide)]; omega), ei, ib_nI hj (by decide), show ix (nI j) = j from nI_clamp (by omega), hI_sI_ne (by decide), if_pos ⟨rfl, rfl⟩]
      · rw [if_neg (show ¬ b01 true = 0 by decide), if_neg (fun z : true = true ∧ true = false => by cases z.2)]
  refine ⟨_, _, stp, F1, G1.2.2.1, ?_⟩
  rw [G1.2.2.2]
  by_cases z : lv = true ∧ br = false
  · rw [if_pos z]; exact Or.inl ⟨z.1, z.2, _, rfl, by rw [wf_at _ hj], by rw [z.2]⟩
  · rw [if_neg z]
    refine Or.inr ⟨fun z1 z2 => absurd ⟨z1, z2⟩ z, rfl, ?_⟩
    cases lv
    · rw [Bool.or_false]
    · cases br
      · exact absurd ⟨rfl, rfl⟩ z
      · rfl
theorem EvR_brk {ck vl : Nat → Nat} {N k k1 : Nat} {rc0 rc1 rc2 : Int32 → Hp → Option (Int64 × Hp)} {D : (Nat → Int32) → Option Int32} (e : ck k = 191) (H1 : EvR ck vl N rc1 D (k + 1) k1) : EvR ck vl N (b_Mod_partOf rc0 rc1 rc2) D k (k1 + 1) := by
  intro h t br lv G
  have hkN : k < N := GS_lt G (by omega)
  obtain ⟨F1, G1⟩ := GS_go G hkN
  obtain ⟨x, g, a1, a2, a3, a4⟩ := H1 _ t br lv G1
  rw [FRr_95 F1] at a4
  refine ⟨x, sI g 84 19 (hI g 84 19 + 1), ?_, FRr_trans F1 (FRr_sI a2 (by decide)), by rw [hI_sI', if_pos ⟨rfl, rfl⟩, a3, nI_1]; rfl, by rw [hI_sI', if_neg (by omega)]; exact a4⟩
  unfold b_Mod_partOf s_Mod_sign
  rw [Option.bind_some, show (100 : Int32) + 91 = nI 191 from rfl, p_passes G (by decide), if_pos e, Option.bind_some, if_neg (show ¬ ((1 : Int32), sI h 84 19 (hI h 84 19 + 1)).1 = 0 from i10)]
  show (rc1 (b01 lv) (sI h 84 19 (hI h 84 19 + 1))).bind _ = _
  rw [a1, Option.bind_some]
/-- tests -/
def ORb (r : Option Bool) (lv br x : Bool) (b : Int32) : Prop := (lv = true ∧ br = false ∧ r = some x ∧ b = b01 false) ∨ ((lv = true → br = false → r = none) ∧ b = b01 (br || lv))
def EvS (ck vl : Nat → Nat) (N : Nat) (f : Int32 → Hp → Option (Int32 × Hp)) (B : (Nat → Int32) → Option Bool) (k k2 : Nat) : Prop := ∀ (h : Hp) (t : Nat) (br lv : Bool), GS ck vl N t k br h → ∃ (x : Bool) (h2 : Hp), f (b01 lv) h = some (b01 x, h2) ∧ FRr h h2 ∧ hI h2 84 19 = nI (400 * t + k2) ∧ ORb (B (wf (hI h 95))) lv br x (hI h2 84 21)
def EvSt (ck vl : Nat → Nat) (N : Nat) (F : Int32 → Int32 → Hp → Option (Int32 × Hp)) (tb : (Nat → Int32) → Bool → Option Bool) (k k2 : Nat) : Prop := ∀ (h : Hp) (t : Nat) (br lv v : Bool), GS ck vl N t k br h → ∃ (x : Bool) (h2 : Hp), F (b01 lv) (b01 v) h = some (b01 x, h2) ∧ FRr h h2 ∧ hI h2 84 19 = nI (400 * t + k2) ∧ ORb (tb (wf (hI h 95)) v) lv br x (hI h2 84 21)
theorem EvS_seq {ck vl : Nat → Nat} {N : Nat} {f : Int32 → Hp → Option (Int32 × Hp)} {F : Int32 → Int32 → Hp → Option (Int32 × Hp)} {B : (Nat → Int32) → Option Bool} {tb : (Nat → Int32) → Bool → Option Bool} {k k1 k2 : Nat} (H1 : EvS ck vl N f B k k1) (H2 : EvSt ck vl N F tb k1 k2) (hk : k1 ≤ N) : EvS ck vl N (fun v h => (f v h).bind fun u => F v u.1 u.2) (fun w => (B w).bind (tb w)) k k2 := by
  intro h t br lv G
  show ∃ (x : Bool) (h2 : Hp), (f (b01 lv) h).bind (fun u => F (b01 lv) u.1 u.2) = some (b01 x, h2) ∧ FRr h h2 ∧ hI h2 84 19 = nI (400 * t + k2) ∧ ORb ((B (wf (hI h 95))).bind (tb (wf (hI h 95)))) lv br x (hI h2 84 21)
  obtain ⟨x, g, a1, a2, a3, a4⟩ := H1 h t br lv G
  rcases a4 with ⟨l1, l2, l3, l5⟩ | ⟨l1, l3⟩
  · obtain ⟨x2, g2, b1, b2, b3, b4⟩ := H2 g t false lv x ⟨KT_fr G.1 a2, hk, a3, l5⟩
    refine ⟨x2, g2, by rw [a1]; exact b1, FRr_trans a2 b2, b3, ?_⟩
    rw [FRr_95 a2] at b4
    rw [l3, l2]
    exact b4
  · obtain ⟨x2, g2, b1, b2, b3, b4⟩ := H2 g t (br || lv) lv x ⟨KT_fr G.1 a2, hk, a3, l3⟩
    refine ⟨x2, g2, by rw [a1]; exact b1, FRr_trans a2 b2, b3, Or.inr ⟨fun z1 z2 => by rw [l1 z1 z2]; rfl, ?_⟩⟩
    rcases b4 with ⟨m1, m2, -⟩ | ⟨-, m3⟩
    · rw [m1, Bool.or_true] at m2; cases m2
    · rw [m3, Bool.or_assoc, Bool.or_self]
theorem ORb_dead {lv br v : Bool} {b : Int32} (e : b = b01 br) {r : Option Bool} (hr : r = some v) : ORb r lv br v b := by
  rw [e, hr]
  cases lv
  · exact Or.inr ⟨fun z => (by cases z), by rw [Bool.or_false]⟩
  · cases br
    · exact Or.inl ⟨rfl, rfl, rfl, rfl⟩
    · exact Or.inr ⟨fun _ z => (by cases z), rfl⟩
theorem bz_b01 {α : Type} (b : Bool) (F : Option α) : bz (b01 b) F = F := by cases b <;> first | exact bz_0 F | exact bz_1 F
noncomputable def BLP (rc0 rc1 rc2 rc3 : Int32 → Hp → Option (Int32 × Hp)) (v x : Int32) (h : Hp) : Option (Int32 × Hp) := lp (fun q : Int32 × Int32 × Hp => b_Mod_bothOf_6 rc0 rc1 rc2 rc3 q.1 q.2.1 q.2.2) (v, x, h)
noncomputable def OLP (rc0 rc1 rc2 rc3 : Int32 → Hp → Option (Int32 × Hp)) (v x : Int32) (h : Hp) : Option (Int32 × Hp) := lp (fun q : Int32 × Int32 × Hp => b_Mod_testOf_6 rc0 rc1 rc2 rc3 q.1 q.2.1 q.2.2) (v, x, h)
theorem EvSb_nil {ck vl : Nat → Nat} {N k : Nat} {rc0 rc1 rc2 rc3 : Int32 → Hp → Option (Int32 × Hp)} (h1 : ¬ ck k = 5) : EvSt ck vl N (BLP rc0 rc1 rc2 rc3) (fun _ v => some v) k k := by
  intro h t br lv v G
  refine ⟨v, h, lp_inr ?_, FRr_refl h, G.2.2.1, ORb_dead G.2.2.2 rfl⟩
  show b_Mod_bothOf_6 rc0 rc1 rc2 rc3 (b01 lv) (b01 v) h = _
  unfold b_Mod_bothOf_6
  rw [show (5 : Int32) = nI 5 from rfl, p_passes G (by decide), if_neg h1, Option.bind_some, if_pos (show ((0 : Int32), h).1 = 0 from rfl), bz_b01]
theorem EvSo_nil {ck vl : Nat → Nat} {N k : Nat} {rc0 rc1 rc2 rc3 : Int32 → Hp → Option (Int32 × Hp)} (h1 : ¬ ck k = 4) : EvSt ck vl N (OLP rc0 rc1 rc2 rc3) (fun _ v => some v) k k := by
  intro h t br lv v G
  refine ⟨v, h, lp_inr ?_, FRr_refl h, G.2.2.1, ORb_dead G.2.2.2 rfl⟩
  show b_Mod_testOf_6 rc0 rc1 rc2 rc3 (b01 lv) (b01 v) h = _
  unfold b_Mod_testOf_6
  rw [show (4 : Int32) = nI 4 from rfl, p_passes G (by decide), if_neg h1, Option.bind_some, if_pos (show ((0 : Int32), h).1 = 0 from rfl), bz_b01]
theorem EvSb_and {ck vl : Nat → Nat} {N k k2 k3 : Nat} {rc0 rc1 rc2 rc3 : Int32 → Hp → Option (Int32 × Hp)} {B : (Nat → Int32) → Option Bool} {tb : (Nat → Int32) → Bool → Option Bool} (e : ck k = 5) (H1 : EvS ck vl N rc1 B (k + 1) k2) (H2 : EvSt ck vl N (BLP rc0 rc1 rc2 rc3) tb k2 k3) (hk : k2 ≤ N) : EvSt ck vl N (BLP rc0 rc1 rc2 rc3) (fun w v => if v = false then tb w v else (B w).bind (tb w)) k k3 := by
  intro h t br lv v G
  have hkN : k < N := GS_lt G (by omega)
  obtain ⟨F1, G1⟩ := GS_go G hkN
  obtain ⟨x, g, a1, a2, a3, a4⟩ := H1 _ t br (lv && v) G1
  rw [FRr_95 F1] at a4
  have Fg := FRr_trans F1 a2
  have stp : b_Mod_bothOf_6 rc0 rc1 rc2 rc3 (b01 lv) (b01 v) h = some (.inl (b01 lv, b01 (v && x), g)) := by
    have s28 : b_Mod_bothOf_28 rc0 rc1 rc2 rc3 (b01 lv) (b01 v) (b01 (lv && v)) (sI h 84 19 (hI h 84 19 + 1)) = some (.inl (b01 lv, b01 (v && x), g)) := by
      unfold b_Mod_bothOf_28 b_Mod_bothOf_44 b_Mod_bothOf_45
      rw [a1, Option.bind_some]
      cases v
      · rfl
      · cases x <;> rfl
    unfold b_Mod_bothOf_6 b_Mod_bothOf_27
    rw [show (5 : Int32) = nI 5 from rfl, p_passes G (by decide), if_pos e, Option.bind_some, if_neg (show ¬ ((1 : Int32), sI h 84 19 (hI h 84 19 + 1)).1 = 0 from i10)]
    cases lv
    · rw [if_pos (show b01 false = 0 from rfl)]; exact s28
    · rw [if_neg (show ¬ b01 true = 0 by decide)]
      cases v
      · rw [if_pos (show b01 false = 0 from rfl)]; exact s28
      · rw [if_neg (show ¬ b01 true = 0 by decide)]; exact s28
  have K := KT_fr G.1 Fg
  show ∃ x h2, lp _ _ = _ ∧ _
  rw [show (fun q : Int32 × Int32 × Hp => b_Mod_bothOf_6 rc0 rc1 rc2 rc3 q.1 q.2.1 q.2.2) = (fun q : Int32 × Int32 × Hp => b_Mod_bothOf_6 rc0 rc1 rc2 rc3 q.1 q.2.1 q.2.2) from rfl, lp_inl (f := fun q : Int32 × Int32 × Hp => b_Mod_bothOf_6 rc0 rc1 rc2 rc3 q.1 q.2.1 q.2.2) (s := (b01 lv, b01 v, h)) stp]
  cases v
  · -- the second side is dead
    rw [Bool.and_false] at a4
    have eb : hI g 84 21 = b01 br := by
      rcases a4 with ⟨m1, -⟩ | ⟨-, m3⟩
      · cases m1
      · rw [m3, Bool.or_false]
    obtain ⟨x2, g2, b1, b2, b3, b4⟩ := H2 g t br lv false ⟨K, hk, a3, eb⟩
    rw [FRr_95 Fg] at b4
    exact ⟨x2, g2, b1, FRr_trans Fg b2, b3, b4⟩
  · rw [Bool.and_true] at a4
    show ∃ x_1 h2, lp _ (b01 lv, b01 x, g) = _ ∧ _ ∧ _ ∧ ORb ((B (wf (hI h 95))).bind (tb (wf (hI h 95)))) lv br x_1 _
    rcases a4 with ⟨l1, l2, l3, l5⟩ | ⟨l1, l3⟩
    · obtain ⟨x2, g2, b1, b2, b3, b4⟩ := H2 g t false lv x ⟨K, hk, a3, l5⟩
      rw [FRr_95 Fg] at b4
      refine ⟨x2, g2, b1, FRr_trans Fg b2, b3, ?_⟩
      rw [l3, l2]
      exact b4
    · obtain ⟨x2, g2, b1, b2, b3, b4⟩ := H2 g t (br || lv) lv x ⟨K, hk, a3, l3⟩
      refine ⟨x2, g2, b1, FRr_trans Fg b2, b3, Or.inr ⟨fun z1 z2 => by rw [l1 z1 z2]; rfl, ?_⟩⟩
      rcases b4 with ⟨m1, m2, -⟩ | ⟨-, m3⟩
      · rw [m1, Bool.or_true] at m2; cases m2
      · rw [m3, Bool.or_assoc, Bool.or_self]
theorem EvSo_or {ck vl : Nat → Nat} {N k k2 k3 : Nat} {rc0 rc1 rc2 rc3 : Int32 → Hp → Option (Int32 × Hp)} {B : (Nat → Int32) → Option Bool} {tb : (Nat → Int32) → Bool → Option Bool} (e : ck k = 4) (H1 : EvS ck vl N rc0 B (k + 1) k2) (H2 : EvSt ck vl N (OLP rc0 rc1 rc2 rc3) tb k2 k3) (hk : k2 ≤ N) : EvSt ck vl N (OLP rc0 rc1 rc2 rc3) (fun w v => if v = true then tb w v else (B w).bind (tb w)) k k3 := by
  intro h t br lv v G
  have hkN : k < N := GS_lt G (by omega)
  obtain ⟨F1, G1⟩ := GS_go G hkN
  obtain ⟨x, g, a1, a2, a3, a4⟩ := H1 _ t br (lv && !v) G1
  rw [FRr_95 F1] at a4
  have Fg := FRr_trans F1 a2
  have stp : b_Mod_testOf_6 rc0 rc1 rc2 rc3 (b01 lv) (b01 v) h = some (.inl (b01 lv, b01 (v || x), g)) := by
    have s28 : b_Mod_testOf_28 rc0 rc1 rc2 rc3 (b01 lv) (b01 v) (b01 (lv && !v)) (sI h 84 19 (hI h 84 19 + 1)) = some (.inl (b01 lv, b01 (v || x), g)) := by
      unfold b_Mod_testOf_28 b_Mod_testOf_40 b_Mod_testOf_45
      rw [a1, Option.bind_some]
      cases v
      · cases x <;> rfl
      · rfl
    unfold b_Mod_testOf_6 b_Mod_testOf_27
    rw [show (4 : Int32) = nI 4 from rfl, p_passes G (by decide), if_pos e, Option.bind_some, if_neg (show ¬ ((1 : Int32), sI h 84 19 (hI h 84 19 + 1)).1 = 0 from i10)]
    cases lv
    · rw [if_pos (show b01 false = 0 from rfl)]; exact s28
    · rw [if_neg (show ¬ b01 true = 0 by decide)]
      cases v
      · rw [if_pos (show b01 false = 0 from rfl)]; exact s28
      · rw [if_neg (show ¬ b01 true = 0 by decide)]; exact s28
  have K := KT_fr G.1 Fg
  show ∃ x h2, lp _ _ = _ ∧ _
  rw [lp_inl (f := fun q : Int32 × Int32 × Hp => b_Mod_testOf_6 rc0 rc1 rc2 rc3 q.1 q.2.1 q.2.2) (s := (b01 lv, b01 v, h)) stp]
  cases v
  · rw [Bool.not_false, Bool.and_true] at a4
    show ∃ x_1 h2, lp _ (b01 lv, b01 x, g) = _ ∧ _ ∧ _ ∧ ORb ((B (wf (hI h 95))).bind (tb (wf (hI h 95)))) lv br x_1 _
    rcases a4 with ⟨l1, l2, l3, l5⟩ | ⟨l1, l3⟩
    · obtain ⟨x2, g2, b1, b2, b3, b4⟩ := H2 g t false lv x ⟨K, hk, a3, l5⟩
      rw [FRr_95 Fg] at b4
      refine ⟨x2, g2, b1, FRr_trans Fg b2, b3, ?_⟩
      rw [l3, l2]
      exact b4
    · obtain ⟨x2, g2, b1, b2, b3, b4⟩ := H2 g t (br || lv) lv x ⟨K, hk, a3, l3⟩
      refine ⟨x2, g2, b1, FRr_trans Fg b2, b3, Or.inr ⟨fun z1 z2 => by rw [l1 z1 z2]; rfl, ?_⟩⟩
      rcases b4 with ⟨m1, m2, -⟩ | ⟨-, m3⟩
      · rw [m1, Bool.or_true] at m2; cases m2
      · rw [m3, Bool.or_assoc, Bool.or_self]
  · rw [Bool.not_true, Bool.and_false] at a4
    have eb : hI g 84 21 = b01 br := by
      rcases a4 with ⟨m1, -⟩ | ⟨-, m3⟩
      · cases m1
      · rw [m3, Bool.or_false]
    obtain ⟨x2, g2, b1, b2, b3, b4⟩ := H2 g t br lv true ⟨K, hk, a3, eb⟩
    rw [FRr_95 Fg] at b4
    exact ⟨x2, g2, b1, FRr_trans Fg b2, b3, b4⟩
