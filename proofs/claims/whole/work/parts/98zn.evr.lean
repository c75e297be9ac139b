/-! the law: what the reference's tokens tell, sums -/
def KT (ck vl : Nat → Nat) (N t : Nat) (h : Hp) : Prop := t < 6 ∧ N ≤ 400 ∧ ck N = 0 ∧ (∀ i, ck i < 1000) ∧ hI h 84 20 = nI (400 * t + N) ∧ ∀ i, i < N → hI h 86 (198 + 400 * t + i) = nI (ck i) ∧ hI h 86 (2598 + 400 * t + i) = nI (vl i)
def GS (ck vl : Nat → Nat) (N t k : Nat) (br : Bool) (h : Hp) : Prop := KT ck vl N t h ∧ k ≤ N ∧ hI h 84 19 = nI (400 * t + k) ∧ hI h 84 21 = b01 br
def gF (k : Nat) : Bool := !(decide (k = 19) || decide (k = 21))
def FRr (h h2 : Hp) : Prop := eqO sAs h h2 ∧ hL h2 84 = hL h 84 ∧ m84 gF h h2
theorem FRr_refl (h : Hp) : FRr h h := ⟨eqO_refl _ _, rfl, m84_refl _ _⟩
theorem FRr_trans {h h1 h2 : Hp} (a : FRr h h1) (b : FRr h1 h2) : FRr h h2 := ⟨eqO_trans a.1 b.1, b.2.1.trans a.2.1, m84_trans a.2.2 b.2.2⟩
theorem FRr_sI {h h1 : Hp} {k : Nat} {v : Int32} (a : FRr h h1) (hk : gF k = false) : FRr h (sI h1 84 k v) := ⟨eqO_sI a.1 (by decide), a.2.1, m84_sI a.2.2 (Or.inr hk)⟩
theorem KT_fr {ck vl : Nat → Nat} {N t : Nat} {h h2 : Hp} (K : KT ck vl N t h) (F : FRr h h2) : KT ck vl N t h2 := by
  unfold KT
  rw [(F.1.2 86 (by decide)).1, F.2.2 20 (by decide)]
  exact K
theorem FRr_95 {h h2 : Hp} (F : FRr h h2) : hI h2 95 = hI h 95 := (F.1.2 95 (by decide)).1
theorem p_codeAt {ck vl : Nat → Nat} {N t k : Nat} {h : Hp} (K : KT ck vl N t h) (hk : k ≤ N) : s_Mod_codeAt (nI (400 * t + k)) h = some (nI (ck k)) := by
  obtain ⟨k1, k2, k3, k4, k5, k6⟩ := K
  unfold s_Mod_codeAt s_Mod_codeAt_22
  rw [k5]
  by_cases z : k = N
  · rw [if_pos (by rw [nI_leI (by omega) (by omega)]; omega), z, k3]
    rfl
  · rw [if_neg (by rw [nI_leI (by omega) (by omega)]; omega), show (198 : Int32) = nI 198 from rfl, nI_add, ib_nI (by omega) (by decide), show ix (nI (198 + (400 * t + k))) = 198 + 400 * t + k by rw [← Nat.add_assoc]; exact nI_clamp (by omega), (k6 k (by omega)).1]
theorem GS_go {ck vl : Nat → Nat} {N t k : Nat} {br : Bool} {h : Hp} (G : GS ck vl N t k br h) (hk : k < N) : FRr h (sI h 84 19 (hI h 84 19 + 1)) ∧ GS ck vl N t (k + 1) br (sI h 84 19 (hI h 84 19 + 1)) := by
  have F : FRr h (sI h 84 19 (hI h 84 19 + 1)) := FRr_sI (FRr_refl h) (by decide)
  refine ⟨F, KT_fr G.1 F, by omega, ?_, ?_⟩
  · rw [hI_sI', if_pos ⟨rfl, rfl⟩, G.2.2.1, nI_1]; rfl
  · rw [hI_sI', if_neg (by omega)]; exact G.2.2.2
theorem GS_lt {ck vl : Nat → Nat} {N t k : Nat} {br : Bool} {h : Hp} (G : GS ck vl N t k br h) (hk : ¬ ck k = 0) : k < N := by
  have := G.2.1
  rcases (show k < N ∨ k = N by omega) with z | z
  · exact z
  · exact absurd (by rw [z]; exact G.1.2.2.1) hk
theorem p_passes {ck vl : Nat → Nat} {N t k c : Nat} {br : Bool} {h : Hp} (G : GS ck vl N t k br h) (hc : c < 1000) : s_Mod_passes0 (nI c) h = if ck k = c then some (1, sI h 84 19 (hI h 84 19 + 1)) else some (0, h) := by
  have kb := G.1.2.2.2.1 k
  unfold s_Mod_passes0 s_Mod_passes0_17 s_Mod_passes0_32
  rw [G.2.2.1, p_codeAt G.1 G.2.1, Option.bind_some]
  by_cases z : ck k = c
  · rw [if_pos (by rw [z]), if_pos z, if_neg (show ¬ (1 : Int32) = 0 by decide), bz_1]
  · rw [if_neg (by rw [nI_eq (by omega) (by omega)]; exact z), if_neg z, if_pos rfl, bz_0]
def OR64 (r : Option Int32) (lv br : Bool) (x : Int64) (b : Int32) : Prop := (lv = true ∧ br = false ∧ ∃ v, r = some v ∧ x = v.toInt64 ∧ b = b01 false) ∨ ((lv = true → br = false → r = none) ∧ x = 0 ∧ b = b01 (br || lv))
def EvR (ck vl : Nat → Nat) (N : Nat) (f : Int32 → Hp → Option (Int64 × Hp)) (D : (Nat → Int32) → Option Int32) (k k2 : Nat) : Prop := ∀ (h : Hp) (t : Nat) (br lv : Bool), GS ck vl N t k br h → ∃ x h2, f (b01 lv) h = some (x, h2) ∧ FRr h h2 ∧ hI h2 84 19 = nI (400 * t + k2) ∧ OR64 (D (wf (hI h 95))) lv br x (hI h2 84 21)
def EvRt (ck vl : Nat → Nat) (N : Nat) (F : Int32 → Int64 → Hp → Option (Int64 × Hp)) (tl : (Nat → Int32) → Int32 → Option Int32) (k k2 : Nat) : Prop := ∀ (h : Hp) (t : Nat) (br lv : Bool) (v : Int32), GS ck vl N t k br h → ∃ x h2, F (b01 lv) (if lv = true ∧ br = false then v.toInt64 else 0) h = some (x, h2) ∧ FRr h h2 ∧ hI h2 84 19 = nI (400 * t + k2) ∧ OR64 (tl (wf (hI h 95)) v) lv br x (hI h2 84 21)
theorem EvR_seq {ck vl : Nat → Nat} {N : Nat} {f : Int32 → Hp → Option (Int64 × Hp)} {F : Int32 → Int64 → Hp → Option (Int64 × Hp)} {D : (Nat → Int32) → Option Int32} {tl : (Nat → Int32) → Int32 → Option Int32} {k k1 k2 : Nat} (H1 : EvR ck vl N f D k k1) (H2 : EvRt ck vl N F tl k1 k2) (hk : k1 ≤ N) : EvR ck vl N (fun v h => (f v h).bind fun u => F v u.1 u.2) (fun w => (D w).bind (tl w)) k k2 := by
  intro h t br lv G
  show ∃ x h2, (f (b01 lv) h).bind (fun u => F (b01 lv) u.1 u.2) = some (x, h2) ∧ FRr h h2 ∧ hI h2 84 19 = nI (400 * t + k2) ∧ OR64 ((D (wf (hI h 95))).bind (tl (wf (hI h 95)))) lv br x (hI h2 84 21)
  obtain ⟨x, g, a1, a2, a3, a4⟩ := H1 h t br lv G
  rcases a4 with ⟨l1, l2, v, l3, l4, l5⟩ | ⟨l1, l2, l3⟩
  · obtain ⟨x2, g2, b1, b2, b3, b4⟩ := H2 g t false lv v ⟨KT_fr G.1 a2, hk, a3, l5⟩
    rw [if_pos ⟨l1, rfl⟩, ← l4] at b1
    refine ⟨x2, g2, by rw [a1]; exact b1, FRr_trans a2 b2, b3, ?_⟩
    rw [FRr_95 a2] at b4
    rw [l3, l2]
    exact b4
  · obtain ⟨x2, g2, b1, b2, b3, b4⟩ := H2 g t (br || lv) lv 0 ⟨KT_fr G.1 a2, hk, a3, l3⟩
    rw [if_neg (fun z => by rw [z.1, Bool.or_true] at z; cases z.2), ← l2] at b1
    refine ⟨x2, g2, by rw [a1]; exact b1, FRr_trans a2 b2, b3, Or.inr ⟨fun z1 z2 => by rw [l1 z1 z2]; rfl, ?_⟩⟩
    rcases b4 with ⟨m1, m2, -⟩ | ⟨-, m2, m3⟩
    · rw [m1, Bool.or_true] at m2; cases m2
    · exact ⟨m2, by rw [m3, Bool.or_assoc, Bool.or_self]⟩
/-- bounds -/
theorem bdI_rt {x : Int64} {v : Int32} (h : bdI x = some v) : v.toInt64 = x := by
  unfold bdI at h
  split at h
  · cases h
  · rename_i h1
    split at h
    · cases h
    · rename_i h2
      cases h
      have a1 := Int64.le_iff_toInt_le.mp (Int64.not_lt.mp h1)
      have a2 := Int64.le_iff_toInt_le.mp (Int64.not_lt.mp h2)
      rw [show (1000000000 : Int64).toInt = 1000000000 by decide] at a1
      rw [show (-1000000000 : Int64).toInt = -1000000000 by decide] at a2
      apply Int64.toInt_inj.mp
      rw [Int32.toInt_toInt64, Int64.toInt_toInt32, Int.bmod_eq_of_le (by omega) (by omega)]
theorem p_bounded {x : Int64} {h : Hp} (e : hI h 84 21 = 0) : s_Mod_bounded x 1 h = match bdI x with
    | some _ => some (x, h)
    | none => some (0, sI h 84 21 1) := by
  have e1 : hI (sI h 84 21 1) 84 21 = 1 := by rw [hI_sI', if_pos ⟨rfl, rfl⟩]
  unfold s_Mod_bounded s_Mod_bounded_20 s_Mod_bounded_25 s_Mod_bounded_37 bdI
  rw [if_neg (show ¬ (1 : Int32) = 0 by decide), e, e1, if_pos rfl, if_neg (show ¬ (1 : Int32) = 0 by decide)]
  by_cases z : 1000000000 < x
  · rw [if_pos ((lg_cmp_gt _ _).mpr z), if_pos z]
  · rw [if_neg (fun u => z ((lg_cmp_gt _ _).mp u)), if_neg z]
    by_cases w : x < -1000000000
    · rw [if_neg (fun u => absurd w (Int64.not_lt.mpr ((lg_cmp_ge _ _).mp u))), if_pos w]
    · rw [if_pos ((lg_cmp_ge _ _).mpr (Int64.not_lt.mp w)), if_neg w]
theorem p_bounded0 {lv br : Bool} {h : Hp} (e : hI h 84 21 = b01 br) (hd : ¬ (lv = true ∧ br = false)) : s_Mod_bounded 0 (b01 lv) h = some (0, h) := by
  have k25 : s_Mod_bounded_25 0 h = some (0, h) := by
    unfold s_Mod_bounded_25 s_Mod_bounded_37
    split <;> rfl
  unfold s_Mod_bounded
  cases lv
  · rw [if_pos (show b01 false = 0 from rfl), k25]
  · rw [if_neg (show ¬ b01 true = 0 by decide), if_neg (show ¬ 0 < lg_cmp 0 1000000000 by decide), if_pos (show 0 ≤ lg_cmp 0 (-1000000000) by decide), k25]
theorem sI_id {h : Hp} {j k : Nat} {v : Int32} (e : hI h j k = v) : sI h j k v = h := by
  refine Prod.ext ?_ rfl
  funext a
  show (if a = j then upd (hI h a) k v else hI h a) = hI h a
  by_cases z : a = j
  · rw [if_pos z]
    funext i
    unfold upd
    by_cases w : i = k
    · rw [if_pos w, w, z]; exact e.symm
    · rw [if_neg w]
  · rw [if_neg z]
theorem p_bounded1 {x : Int64} {h : Hp} (e : hI h 84 21 = 1) : s_Mod_bounded x 1 h = some (0, h) := by
  have k25 : ∀ x, s_Mod_bounded_25 x h = some (0, h) := fun x => by
    unfold s_Mod_bounded_25 s_Mod_bounded_37
    rw [e, if_neg (by decide)]
  have k20 : ∀ x, s_Mod_bounded_20 x h = some (0, h) := fun x => by
    unfold s_Mod_bounded_20
    rw [sI_id e, k25]
  unfold s_Mod_bounded
  rw [if_neg (show ¬ (1 : Int32) = 0 by decide), k20, k25]
  split
  · rfl
  · split <;> rfl
/-- a loop's step, in sums and terms: what comes after the second operand -/
theorem OR_step {ck vl : Nat → Nat} {N : Nat} {F : Int32 → Int64 → Hp → Option (Int64 × Hp)} {D2 : (Nat → Int32) → Option Int32} {tl : (Nat → Int32) → Int32 → Option Int32} {op k2 k3 t : Nat} {h g : Hp} {lv br : Bool} {v : Int32} {x : Int64} {b : Int32} {X : Option (Int64 × Hp)} (H2 : EvRt ck vl N F tl k2 k3) (K : KT ck vl N t h) (hk : k2 ≤ N) (Fg : FRr h g) (eg : hI g 84 19 = nI (400 * t + k2)) (eb : hI g 84 21 = b) (O : OR64 (D2 (wf (hI h 95))) lv br x b)
    (A : ∀ u, lv = true → br = false → x = u.toInt64 → b = b01 false → X = match jn op v u with
      | some z => F 1 z.toInt64 g
      | none => F 1 0 (sI g 84 21 1))
    (Dd : x = 0 → b = b01 (br || lv) → X = F (b01 lv) 0 g) : ∃ x2 h2, X = some (x2, h2) ∧ FRr h h2 ∧ hI h2 84 19 = nI (400 * t + k3) ∧ OR64 ((D2 (wf (hI h 95))).bind fun u => (jn op v u).bind (tl (wf (hI h 95)))) lv br x2 (hI h2 84 21) := by
  rcases O with ⟨l1, l2, u, l3, l4, l5⟩ | ⟨l1, l2, l3⟩
  · have A1 := A u l1 l2 l4 l5
    rw [l3, Option.bind_some]
    cases ej : jn op v u with
    | some z =>
      rw [ej] at A1
      obtain ⟨x2, g2, b1, b2, b3, b4⟩ := H2 g t false true z ⟨KT_fr K Fg, hk, eg, eb.trans l5⟩
      rw [if_pos ⟨rfl, rfl⟩] at b1
      rw [FRr_95 Fg] at b4
      refine ⟨x2, g2, A1.trans b1, FRr_trans Fg b2, b3, ?_⟩
      rw [l1, l2]
      exact b4
    | none =>
      rw [ej] at A1
      have F2 : FRr g (sI g 84 21 1) := FRr_sI (FRr_refl _) (by decide)
      obtain ⟨x2, g2, b1, b2, b3, b4⟩ := H2 (sI g 84 21 1) t true true 0 ⟨KT_fr K (FRr_trans Fg F2), hk, by rw [hI_sI', if_neg (by omega)]; exact eg, by rw [hI_sI', if_pos ⟨rfl, rfl⟩]; rfl⟩
      rw [if_neg (fun z => by cases z.2)] at b1
      refine ⟨x2, g2, A1.trans b1, FRr_trans (FRr_trans Fg F2) b2, b3, Or.inr ⟨fun _ _ => rfl, ?_⟩⟩
      rcases b4 with ⟨-, m2, -⟩ | ⟨-, m2, m3⟩
      · cases m2
      · exact ⟨m2, by rw [m3, l1, Bool.or_true, Bool.or_true]⟩
  · obtain ⟨x2, g2, b1, b2, b3, b4⟩ := H2 g t (br || lv) lv 0 ⟨KT_fr K Fg, hk, eg, eb.trans l3⟩
    rw [if_neg (fun z => by rw [z.1, Bool.or_true] at z; cases z.2)] at b1
    refine ⟨x2, g2, (Dd l2 l3).trans b1, FRr_trans Fg b2, b3, Or.inr ⟨fun z1 z2 => by rw [l1 z1 z2]; rfl, ?_⟩⟩
    rcases b4 with ⟨m1, m2, -⟩ | ⟨-, m2, m3⟩
    · rw [m1, Bool.or_true] at m2; cases m2
    · exact ⟨m2, by rw [m3, Bool.or_assoc, Bool.or_self]⟩
noncomputable def SLP (rc0 rc1 rc2 : Int32 → Hp → Option (Int64 × Hp)) (v : Int32) (x : Int64) (h : Hp) : Option (Int64 × Hp) := lp (fun q : Int32 × Int64 × Hp => b_Mod_sumOf_6 rc0 rc1 rc2 q.1 q.2.1 q.2.2) (v, x, h)
noncomputable def TLP (rc0 rc1 rc2 : Int32 → Hp → Option (Int64 × Hp)) (v : Int32) (x : Int64) (h : Hp) : Option (Int64 × Hp) := lp (fun q : Int32 × Int64 × Hp => b_Mod_termOf_6 rc0 rc1 rc2 q.1 q.2.1 q.2.2) (v, x, h)
theorem EvRs_nil {ck vl : Nat → Nat} {N k : Nat} {rc0 rc1 rc2 : Int32 → Hp → Option (Int64 × Hp)} (h1 : ¬ ck k = 143) (h2 : ¬ ck k = 145) : EvRt ck vl N (SLP rc0 rc1 rc2) (fun _ v => some v) k k := by
  intro h t br lv v G
  have kb := G.1.2.2.2.1 k
  refine ⟨if lv = true ∧ br = false then v.toInt64 else 0, h, lp_inr ?_, FRr_refl h, G.2.2.1, ?_⟩
  · show b_Mod_sumOf_6 rc0 rc1 rc2 (b01 lv) (if lv = true ∧ br = false then v.toInt64 else 0) h = _
    unfold b_Mod_sumOf_6 s_Mod_sign
    rw [G.2.2.1, p_codeAt G.1 G.2.1, Option.bind_some, Option.bind_some, if_neg (by rw [show (100 : Int32) + 43 = nI 143 from rfl, nI_eq (by omega) (by decide)]; exact h1), Option.bind_some, Option.bind_some, if_neg (by rw [show (100 : Int32) + 45 = nI 145 from rfl, nI_eq (by omega) (by decide)]; exact h2)]
  · rw [G.2.2.2]
    by_cases z : lv = true ∧ br = false
    · rw [if_pos z]
      exact Or.inl ⟨z.1, z.2, v, rfl, rfl, by rw [z.2]⟩
    · rw [if_neg z]
      refine Or.inr ⟨fun z1 z2 => absurd ⟨z1, z2⟩ z, rfl, ?_⟩
      cases lv
      · rw [Bool.or_false]
      · cases br
        · exact absurd ⟨rfl, rfl⟩ z
        · rfl
theorem EvRm_nil {ck vl : Nat → Nat} {N k : Nat} {rc0 rc1 rc2 : Int32 → Hp → Option (Int64 × Hp)} (h1 : ¬ ck k = 142) (h2 : ¬ ck k = 147) : EvRt ck vl N (TLP rc0 rc1 rc2) (fun _ v => some v) k k := by
  intro h t br lv v G
  have kb := G.1.2.2.2.1 k
  refine ⟨if lv = true ∧ br = false then v.toInt64 else 0, h, lp_inr ?_, FRr_refl h, G.2.2.1, ?_⟩
  · show b_Mod_termOf_6 rc0 rc1 rc2 (b01 lv) (if lv = true ∧ br = false then v.toInt64 else 0) h = _
    unfold b_Mod_termOf_6 s_Mod_sign
    rw [G.2.2.1, p_codeAt G.1 G.2.1, Option.bind_some, Option.bind_some, if_neg (by rw [show (100 : Int32) + 42 = nI 142 from rfl, nI_eq (by omega) (by decide)]; exact h1), Option.bind_some, Option.bind_some, if_neg (by rw [show (100 : Int32) + 47 = nI 147 from rfl, nI_eq (by omega) (by decide)]; exact h2)]
  · rw [G.2.2.2]
    by_cases z : lv = true ∧ br = false
    · rw [if_pos z]
      exact Or.inl ⟨z.1, z.2, v, rfl, rfl, by rw [z.2]⟩
    · rw [if_neg z]
      refine Or.inr ⟨fun z1 z2 => absurd ⟨z1, z2⟩ z, rfl, ?_⟩
      cases lv
      · rw [Bool.or_false]
      · cases br
        · exact absurd ⟨rfl, rfl⟩ z
        · rfl
theorem EvRs_op {ck vl : Nat → Nat} {N k k2 k3 op : Nat} {rc0 rc1 rc2 : Int32 → Hp → Option (Int64 × Hp)} {D2 : (Nat → Int32) → Option Int32} {tl : (Nat → Int32) → Int32 → Option Int32} (ho : (op = 2 ∧ ck k = 143) ∨ (op = 3 ∧ ck k = 145)) (H1 : EvR ck vl N rc2 D2 (k + 1) k2) (H2 : EvRt ck vl N (SLP rc0 rc1 rc2) tl k2 k3) (hk : k2 ≤ N) : EvRt ck vl N (SLP rc0 rc1 rc2) (fun w v => (D2 w).bind fun u => (jn op v u).bind (tl w)) k k3 := by
  intro h t br lv v G
  have kb := G.1.2.2.2.1 k
  have hkN : k < N := GS_lt G (by omega)
  obtain ⟨F1, G1⟩ := GS_go G hkN
  obtain ⟨x, g, a1, a2, a3, a4⟩ := H1 _ t br lv G1
  rw [FRr_95 F1] at a4
  have Fg := FRr_trans F1 a2
  have s6 : ∀ X : Int64, b_Mod_sumOf_6 rc0 rc1 rc2 (b01 lv) X h = (s_Mod_bounded (if op = 2 then X + x else X - x) (b01 lv) g).bind fun u1 => some (.inl (b01 lv, u1.1, u1.2)) := fun X => by
    have s59 : ∀ s0 : Int32, b_Mod_sumOf_59 rc0 rc1 rc2 (b01 lv) X s0 h = if s0 = 0 then (s_Mod_bounded (X - x) (b01 lv) g).bind fun u1 => some (.inl (b01 lv, u1.1, u1.2)) else (s_Mod_bounded (X + x) (b01 lv) g).bind fun u1 => some (.inl (b01 lv, u1.1, u1.2)) := fun s0 => by
      unfold b_Mod_sumOf_59 b_Mod_sumOf_95
      rw [a1, Option.bind_some]
    unfold b_Mod_sumOf_6 b_Mod_sumOf_38 s_Mod_sign
    rw [s59, s59, G.2.2.1, p_codeAt G.1 G.2.1]
    rcases ho with ⟨o1, o2⟩ | ⟨o1, o2⟩
    · rw [Option.bind_some, Option.bind_some, o2, if_pos (show nI 143 = (100 : Int32) + 43 from rfl), Option.bind_some, Option.bind_some, if_pos (show nI 143 = (100 : Int32) + 43 from rfl), if_neg (show ¬ (1 : Int32) = 0 by decide), if_pos o1]
    · rw [Option.bind_some, Option.bind_some, o2, if_neg (show ¬ nI 145 = (100 : Int32) + 43 by decide), Option.bind_some, Option.bind_some, if_pos (show nI 145 = (100 : Int32) + 45 from rfl), Option.bind_some, Option.bind_some, if_neg (show ¬ nI 145 = (100 : Int32) + 43 by decide), if_pos rfl, if_neg (by omega)]
  refine OR_step (op := op) (v := v) H2 G.1 hk Fg a3 rfl a4 (fun u l1 l2 l4 l5 => ?_) (fun l2 l3 => ?_)
  · rw [if_pos ⟨l1, l2⟩]
    have sx := s6 v.toInt64
    rw [l4, l1, show b01 true = 1 from rfl, p_bounded (by rw [l5]; rfl)] at sx
    have ej : jn op v u = bdI (if op = 2 then v.toInt64 + u.toInt64 else v.toInt64 - u.toInt64) := by
      unfold jn
      rcases ho with ⟨o1, -⟩ | ⟨o1, -⟩
      · rw [if_pos o1, if_pos o1]
      · rw [if_neg (by omega), if_pos o1, if_neg (by omega)]
    rw [ej]
    cases eb : bdI (if op = 2 then v.toInt64 + u.toInt64 else v.toInt64 - u.toInt64) with
    | none =>
      rw [eb] at sx
      rw [l1]
      exact lp_inl sx
    | some z =>
      rw [eb] at sx
      rw [l1]
      show _ = SLP rc0 rc1 rc2 1 z.toInt64 g
      rw [bdI_rt eb]
      exact lp_inl sx
  · have sx := s6 (if lv = true ∧ br = false then v.toInt64 else 0)
    rw [l2] at sx
    have eB : s_Mod_bounded (if op = 2 then (if lv = true ∧ br = false then v.toInt64 else 0) + 0 else (if lv = true ∧ br = false then v.toInt64 else 0) - 0) (b01 lv) g = some (0, g) := by
      cases lv
      · rw [if_neg (fun z : false = true ∧ br = false => by cases z.1), show (if op = 2 then (0 : Int64) + 0 else 0 - 0) = 0 by split <;> rfl]
        exact p_bounded0 (br := br) (by rw [l3, Bool.or_false]) (fun z => by cases z.1)
      · exact p_bounded1 (by rw [l3, Bool.or_true]; rfl)
    rw [eB] at sx
    exact lp_inl sx
theorem cnL_1 {α : Type} (F : Option α) : cnL 1 F = F := cnL_some (by decide) F
theorem p_tm113 {rc0 rc1 rc2 : Int32 → Hp → Option (Int64 × Hp)} {v4 : Int32} {X Y : Int64} {lv : Int32} {g : Hp} (hY : v4 = 0 → ¬ Y = 0) : b_Mod_termOf_113 rc0 rc1 rc2 lv X v4 Y g = (s_Mod_bounded (if v4 = 0 then X / Y else X * Y) lv g).bind fun u1 => some (.inl (lv, u1.1, u1.2)) := by
  unfold b_Mod_termOf_113 b_Mod_termOf_130
  by_cases z : v4 = 0
  · rw [if_pos z, if_pos z, cnL_some (hY z)]
  · rw [if_neg z, if_neg z]
theorem EvRm_op {ck vl : Nat → Nat} {N k k2 k3 op : Nat} {rc0 rc1 rc2 : Int32 → Hp → Option (Int64 × Hp)} {D2 : (Nat → Int32) → Option Int32} {tl : (Nat → Int32) → Int32 → Option Int32} (ho : (op = 4 ∧ ck k = 142) ∨ (op = 5 ∧ ck k = 147)) (H1 : EvR ck vl N rc0 D2 (k + 1) k2) (H2 : EvRt ck vl N (TLP rc0 rc1 rc2) tl k2 k3) (hk : k2 ≤ N) : EvRt ck vl N (TLP rc0 rc1 rc2) (fun w v => (D2 w).bind fun u => (jn op v u).bind (tl w)) k k3 := by
  intro h t br lv v G
  have kb := G.1.2.2.2.1 k
  have hkN : k < N := GS_lt G (by omega)
  obtain ⟨F1, G1⟩ := GS_go G hkN
  obtain ⟨x, g, a1, a2, a3, a4⟩ := H1 _ t br lv G1
  rw [FRr_95 F1] at a4
  have Fg := FRr_trans F1 a2
  have s6 : ∀ X : Int64, b_Mod_termOf_6 rc0 rc1 rc2 (b01 lv) X h = if op = 4 then b_Mod_termOf_113 rc0 rc1 rc2 (b01 lv) X 1 x g else if x = 0 then (if hI g 84 21 = 0 then (if b01 lv = 0 then b_Mod_termOf_107 rc0 rc1 rc2 (b01 lv) X 0 0 g else b_Mod_termOf_102 rc0 rc1 rc2 (b01 lv) X 0 g) else b_Mod_termOf_102 rc0 rc1 rc2 (b01 lv) X 0 g) else b_Mod_termOf_113 rc0 rc1 rc2 (b01 lv) X 0 x g := fun X => by
    have s59 : ∀ s0 : Int32, b_Mod_termOf_59 rc0 rc1 rc2 (b01 lv) X s0 h = if s0 = 0 then (if lg_cmp x 0 = 0 then (if hI g 84 21 = 0 then (if b01 lv = 0 then b_Mod_termOf_107 rc0 rc1 rc2 (b01 lv) X s0 0 g else b_Mod_termOf_102 rc0 rc1 rc2 (b01 lv) X s0 g) else b_Mod_termOf_102 rc0 rc1 rc2 (b01 lv) X s0 g) else b_Mod_termOf_113 rc0 rc1 rc2 (b01 lv) X s0 x g) else b_Mod_termOf_113 rc0 rc1 rc2 (b01 lv) X s0 x g := fun s0 => by
      unfold b_Mod_termOf_59
      rw [a1, Option.bind_some]
    unfold b_Mod_termOf_6 b_Mod_termOf_38 s_Mod_sign
    rw [s59, s59, G.2.2.1, p_codeAt G.1 G.2.1]
    rcases ho with ⟨o1, o2⟩ | ⟨o1, o2⟩
    · rw [Option.bind_some, Option.bind_some, o2, if_pos (show nI 142 = (100 : Int32) + 42 from rfl), Option.bind_some, Option.bind_some, if_pos (show nI 142 = (100 : Int32) + 42 from rfl), if_neg (show ¬ (1 : Int32) = 0 by decide), if_pos o1]
    · rw [Option.bind_some, Option.bind_some, o2, if_neg (show ¬ nI 147 = (100 : Int32) + 42 by decide), Option.bind_some, Option.bind_some, if_pos (show nI 147 = (100 : Int32) + 47 from rfl), Option.bind_some, Option.bind_some, if_neg (show ¬ nI 147 = (100 : Int32) + 42 by decide), if_pos rfl, if_neg (show ¬ op = 4 by omega)]
      by_cases z : x = 0
      · rw [if_pos ((lg_cmp_eq _ _).mpr z), if_pos z]
      · rw [if_neg (fun u => z ((lg_cmp_eq _ _).mp u)), if_neg z]
  have s102 : ∀ X : Int64, lv = true → b_Mod_termOf_102 rc0 rc1 rc2 (b01 lv) X 0 g = some (.inl (b01 lv, 0, sI g 84 21 1)) := fun X l1 => by
    unfold b_Mod_termOf_102 b_Mod_termOf_107
    rw [bz_1, p_tm113 (fun _ => by decide), l1, show b01 true = 1 from rfl, p_bounded1 (by rw [hI_sI', if_pos ⟨rfl, rfl⟩]), Option.bind_some]
  refine OR_step (op := op) (v := v) H2 G.1 hk Fg a3 rfl a4 (fun u l1 l2 l4 l5 => ?_) (fun l2 l3 => ?_)
  · rw [if_pos ⟨l1, l2⟩]
    have sx := s6 v.toInt64
    have hb0 : hI g 84 21 = 0 := by rw [l5]; rfl
    rcases ho with ⟨o1, -⟩ | ⟨o1, -⟩
    · have ej : jn op v u = bdI (v.toInt64 * u.toInt64) := by
        unfold jn
        rw [if_neg (by omega), if_neg (by omega), if_pos o1]
      rw [if_pos o1, p_tm113 (fun z => absurd z (by decide)), if_neg (show ¬ (1 : Int32) = 0 by decide), l4, l1, show b01 true = 1 from rfl, p_bounded hb0] at sx
      rw [ej, l1]
      cases eb : bdI (v.toInt64 * u.toInt64) with
      | none =>
        rw [eb] at sx
        exact lp_inl sx
      | some z =>
        rw [eb] at sx
        show _ = TLP rc0 rc1 rc2 1 z.toInt64 g
        rw [bdI_rt eb]
        exact lp_inl sx
    · rw [if_neg (show ¬ op = 4 by omega), hb0, if_pos rfl, l1, if_neg (show ¬ b01 true = 0 by decide), ← l1, s102 _ l1] at sx
      by_cases z : u.toInt64 = 0
      · have ej : jn op v u = none := by
          unfold jn
          rw [if_neg (by omega), if_neg (by omega), if_neg (by omega), if_pos z]
        rw [if_pos (by rw [l4]; exact z)] at sx
        rw [ej]
        rw [l1] at sx ⊢
        exact lp_inl sx
      · have ej : jn op v u = bdI (v.toInt64 / u.toInt64) := by
          unfold jn
          rw [if_neg (by omega), if_neg (by omega), if_neg (by omega), if_neg z]
        rw [if_neg (by rw [l4]; exact z), p_tm113 (fun _ => by rw [l4]; exact z), if_pos rfl, l4, l1, show b01 true = 1 from rfl, p_bounded hb0] at sx
        rw [ej, l1]
        cases eb : bdI (v.toInt64 / u.toInt64) with
        | none =>
          rw [eb] at sx
          exact lp_inl sx
        | some z =>
          rw [eb] at sx
          show _ = TLP rc0 rc1 rc2 1 z.toInt64 g
          rw [bdI_rt eb]
          exact lp_inl sx
  · have sx := s6 (if lv = true ∧ br = false then v.toInt64 else 0)
    rw [l2] at sx
    have fin : b_Mod_termOf_6 rc0 rc1 rc2 (b01 lv) (if lv = true ∧ br = false then v.toInt64 else 0) h = some (.inl (b01 lv, 0, g)) := by
      rw [sx]
      cases lv
      · rw [if_neg (fun z : false = true ∧ br = false => by cases z.1)]
        have e3 : hI g 84 21 = b01 br := by rw [l3, Bool.or_false]
        have bd : s_Mod_bounded 0 (b01 false) g = some (0, g) := p_bounded0 (br := br) e3 (fun z => by cases z.1)
        rcases ho with ⟨o1, -⟩ | ⟨o1, -⟩
        · rw [if_pos o1, p_tm113 (fun z => absurd z (by decide)), if_neg (show ¬ (1 : Int32) = 0 by decide), show (0 : Int64) * 0 = 0 from rfl, bd]
          rfl
        · rw [if_neg (show ¬ op = 4 by omega), if_pos rfl, if_pos (show b01 false = 0 from rfl)]
          unfold b_Mod_termOf_102 b_Mod_termOf_107
          rw [bz_0, bz_1, p_tm113 (fun _ => by decide), p_tm113 (fun _ => by decide), if_pos rfl, show (0 : Int64) / 1 = 0 from rfl]
          cases br
          · rw [if_pos (by rw [e3]; rfl), sI_id (by rw [e3]; rfl), bd]; rfl
          · rw [if_neg (by rw [e3]; decide), sI_id (v := 1) (by rw [e3]; rfl), bd]; rfl
      · have e3 : hI g 84 21 = 1 := by rw [l3, Bool.or_true]; rfl
        rcases ho with ⟨o1, -⟩ | ⟨o1, -⟩
        · rw [if_pos o1, p_tm113 (fun z => absurd z (by decide)), show b01 true = 1 from rfl, p_bounded1 e3]
          rfl
        · rw [if_neg (show ¬ op = 4 by omega), if_pos rfl, if_neg (by rw [e3]; decide), s102 _ rfl, sI_id e3]
    exact lp_inl fin
