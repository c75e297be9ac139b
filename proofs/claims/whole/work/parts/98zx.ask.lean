/-! the law: what the reference tells -/
def AKs (cls : Nat → Nat × ((Nat → Int32) → Option Int32)) (g i : Nat) (w : Nat → Int32) (h : Hp) : Prop := hI h 84 24 = (if (tn cls g w i).isSome then 1 else 0) ∧ ∀ v, tn cls g w i = some v → hL h 84 23 = v.toInt64
theorem FRr_K {h h2 : Hp} (F : FRr h h2) : m84 asF h h2 := m84_mono F.2.2 (fun k hk => by
  unfold asF at hk
  unfold gF
  simp only [Bool.not_eq_true', Bool.or_eq_false_iff, decide_eq_false_iff_not] at hk ⊢
  exact ⟨hk.1.1.1, hk.1.2⟩)
theorem p_ask1 {y : Nat → Nat} {n N g t i : Nat} {ca cb : Nat → Int32} {na : Nat} {cls : Nat → Nat × ((Nat → Int32) → Option Int32)} {kk : Nat → Nat} {h : Hp} (C : CLF y n N ca cb na cls kk i) (K : KT (tC y n) (tV y n) N t h) (eg : hI h 84 19 = nI (400 * t + kk i)) (hg : g < 2) (A : AKs cls g i (wf (hI h 95)) h) : ∃ h2, s_Mod_asks_65 (nI (g + 1)) h = some (.inl (nI (g + 1), h2)) ∧ KT (tC y n) (tV y n) N t h2 ∧ hI h2 84 19 = nI (400 * t + kk (i + 1)) ∧ eqO sAs h h2 ∧ m84 asF h h2 ∧ AKs cls g (i + 1) (wf (hI h 95)) h2 := by
  obtain ⟨fr, se, te, c1, c2, c3, c4, c5, c6, c7, c8, c9, c10, c11, c12, D, j, D1, D2, D3, D4⟩ := C
  have K2 := K
  obtain ⟨t6, n4, -⟩ := K2
  have F0 : FRr h (sI h 84 21 0) := FRr_sI (FRr_refl h) (by decide)
  have G0 : GS (tC y n) (tV y n) N t (kk i) false (sI h 84 21 0) := ⟨KT_fr K F0, Nat.le_of_lt c10, by rw [hI_sI', if_neg (by omega)]; exact eg, by rw [hI_sI', if_pos ⟨rfl, rfl⟩]; rfl⟩
  obtain ⟨F1, G1⟩ := GS_go G0 c10
  obtain ⟨x, g1, a1, a2, a3, a4⟩ := D2 _ t false true G1
  have Fa := FRr_trans (FRr_trans F0 F1) a2
  have F2 : FRr h (sI g1 84 21 0) := FRr_sI Fa (by decide)
  have G2 : GS (tC y n) (tV y n) N t j false (sI g1 84 21 0) := ⟨KT_fr K F2, D3, by rw [hI_sI', if_neg (by omega)]; exact a3, by rw [hI_sI', if_pos ⟨rfl, rfl⟩]; rfl⟩
  rw [FRr_95 F1, FRr_95 F0] at a4
  -- the end of a clause
  have fin : ∀ (s0 : Int32) (hC : Hp), FRr h hC → hI hC 84 19 = nI (400 * t + (kk (i + 1) - 1)) → ∃ h2, s_Mod_asks_138 (nI (g + 1)) (nI ((cls i).1 + 1)) x (hI g1 84 21) s0 hC = some (.inl (nI (g + 1), h2)) ∧ KT (tC y n) (tV y n) N t h2 ∧ hI h2 84 19 = nI (400 * t + kk (i + 1)) ∧ eqO sAs h h2 ∧ m84 asF h h2 ∧ (if ¬ s0 = 0 ∧ hI hC 84 21 = 0 ∧ hI g1 84 21 = 0 ∧ (cls i).1 = g then hI h2 84 24 = 1 ∧ hL h2 84 23 = x else hI h2 84 24 = hI h 84 24 ∧ hL h2 84 = hL h 84) := fun s0 hC FC' eC => by
    have go : hI hC 84 19 + 1 = nI (400 * t + kk (i + 1)) := by rw [eC, nI_1]; congr 1; omega
    have FD : FRr h (sI hC 84 19 (nI (400 * t + kk (i + 1)))) := FRr_sI FC' (by decide)
    have k0 : s_Mod_asks_166 (nI (g + 1)) x hC = some (.inl (nI (g + 1), sI hC 84 19 (nI (400 * t + kk (i + 1))))) := by
      unfold s_Mod_asks_166 s_Mod_asks_167
      rw [if_pos rfl, go]
    have k1 : s_Mod_asks_167 (nI (g + 1)) x 1 hC = some (.inl (nI (g + 1), sI (sL (sI hC 84 19 (nI (400 * t + kk (i + 1)))) 84 23 x) 84 24 1)) := by
      unfold s_Mod_asks_167
      rw [if_neg i10, go]
    have no : ¬ (¬ s0 = 0 ∧ hI hC 84 21 = 0 ∧ hI g1 84 21 = 0 ∧ (cls i).1 = g) → ∃ h2, some (Sum.inl (nI (g + 1), sI hC 84 19 (nI (400 * t + kk (i + 1)))) : (Int32 × Hp) ⊕ Hp) = some (.inl (nI (g + 1), h2)) ∧ KT (tC y n) (tV y n) N t h2 ∧ hI h2 84 19 = nI (400 * t + kk (i + 1)) ∧ eqO sAs h h2 ∧ m84 asF h h2 ∧ (if ¬ s0 = 0 ∧ hI hC 84 21 = 0 ∧ hI g1 84 21 = 0 ∧ (cls i).1 = g then hI h2 84 24 = 1 ∧ hL h2 84 23 = x else hI h2 84 24 = hI h 84 24 ∧ hL h2 84 = hL h 84) := fun nc => ⟨_, rfl, KT_fr K FD, by rw [hI_sI', if_pos ⟨rfl, rfl⟩], FD.1, FRr_K FD, by rw [if_neg nc]; exact ⟨FD.2.2 24 (by decide), FD.2.1⟩⟩
    unfold s_Mod_asks_138
    rw [k0, k1]
    by_cases z1 : s0 = 0
    · rw [if_pos z1]; exact no (fun z => z.1 z1)
    rw [if_neg z1]
    by_cases z2 : hI hC 84 21 = 0
    · rw [if_pos z2]
      by_cases z3 : hI g1 84 21 = 0
      · rw [if_pos z3]
        by_cases z4 : (cls i).1 = g
        · rw [if_pos (by rw [z4])]
          refine ⟨_, rfl, ?_, ?_, eqO_sI (eqO_sL FD.1 (by decide)) (by decide), ?_, ?_⟩
          · have := KT_fr K FD
            unfold KT at this ⊢
            rw [hI_sI_ne (show (86 : Nat) ≠ 84 by decide), hI_sI', if_neg (show ¬ ((84 : Nat) = 84 ∧ (20 : Nat) = 24) by decide)]
            exact this
          · rw [hI_sI', if_neg (by omega)]
            show hI (sI hC 84 19 (nI (400 * t + kk (i + 1)))) 84 19 = _
            rw [hI_sI', if_pos ⟨rfl, rfl⟩]
          · have m0 : m84 asF h (sI hC 84 19 (nI (400 * t + kk (i + 1)))) := FRr_K FD
            have m1 : m84 asF h (sL (sI hC 84 19 (nI (400 * t + kk (i + 1)))) 84 23 x) := m0
            exact m84_sI m1 (Or.inr (by decide))
          · rw [if_pos ⟨z1, z2, z3, z4⟩]
            refine ⟨by rw [hI_sI', if_pos ⟨rfl, rfl⟩], ?_⟩
            show hL (sL (sI hC 84 19 (nI (400 * t + kk (i + 1)))) 84 23 x) 84 23 = x
            rw [hL_sL', if_pos ⟨rfl, rfl⟩]
        · rw [if_neg (by rw [nI_eq (by omega) (by omega)]; omega)]; exact no (fun z => z4 z.2.2.2)
      · rw [if_neg z3]; exact no (fun z => z3 z.2.2.1)
    · rw [if_neg z2]; exact no (fun z => z2 z.2.1)
  -- what the clause tells, out of what was found
  have told : ∀ (s0 : Int32) (hC h2 : Hp), ((cls i).1 = g → (match (cls i).2 (wf (hI h 95)) with
        | some v => ¬ s0 = 0 ∧ hI hC 84 21 = 0 ∧ hI g1 84 21 = 0 ∧ x = v.toInt64
        | none => s0 = 0 ∨ ¬ hI hC 84 21 = 0 ∨ ¬ hI g1 84 21 = 0)) → (if ¬ s0 = 0 ∧ hI hC 84 21 = 0 ∧ hI g1 84 21 = 0 ∧ (cls i).1 = g then hI h2 84 24 = 1 ∧ hL h2 84 23 = x else hI h2 84 24 = hI h 84 24 ∧ hL h2 84 = hL h 84) → AKs cls g (i + 1) (wf (hI h 95)) h2 := fun s0 hC h2 H T => by
    unfold AKs
    rw [tn]
    by_cases z : (cls i).1 = g
    · have H := H z
      rw [if_pos z]
      cases e : (cls i).2 (wf (hI h 95)) with
      | some v =>
        rw [e] at H
        rw [if_pos ⟨H.1, H.2.1, H.2.2.1, z⟩] at T
        exact ⟨T.1, fun u eu => by cases eu; rw [T.2]; exact H.2.2.2⟩
      | none =>
        rw [e] at H
        rw [if_neg (fun u : ¬ s0 = 0 ∧ hI hC 84 21 = 0 ∧ hI g1 84 21 = 0 ∧ (cls i).1 = g => by
          rcases H with H | H | H
          · exact u.1 H
          · exact H u.2.1
          · exact H u.2.2.1)] at T
        show hI h2 84 24 = (if (tn cls g (wf (hI h 95)) i).isSome then 1 else 0) ∧ ∀ v, tn cls g (wf (hI h 95)) i = some v → hL h2 84 23 = v.toInt64
        rw [T.1, T.2]
        exact A
    · rw [if_neg (fun u : ¬ s0 = 0 ∧ hI hC 84 21 = 0 ∧ hI g1 84 21 = 0 ∧ (cls i).1 = g => z u.2.2.2)] at T
      rw [if_neg z, T.1, T.2]
      exact A
  have stp : s_Mod_asks_65 (nI (g + 1)) h = (s_Mod_passes0 3 (sI g1 84 21 0)).bind fun u4 => if u4.1 = 0 then s_Mod_asks_138 (nI (g + 1)) (nI ((cls i).1 + 1)) x (hI g1 84 21) 1 u4.2 else (s_Mod_testOf 1 u4.2).bind fun u5 => if u5.1 = 0 then s_Mod_asks_138 (nI (g + 1)) (nI ((cls i).1 + 1)) x (hI g1 84 21) 0 u5.2 else s_Mod_asks_138 (nI (g + 1)) (nI ((cls i).1 + 1)) x (hI g1 84 21) 1 u5.2 := by
    have a1 : s_Mod_sumOf 1 (sI (sI h 84 21 0) 84 19 (hI (sI h 84 21 0) 84 19 + 1)) = some (x, g1) := a1
    unfold s_Mod_asks_65 s_Mod_asks_133
    rw [if_neg (by rw [K.2.2.2.2.1, eg, nI_leI (by omega) (by omega)]; omega), lt_eq]
    have ec : s_Mod_codeAt (hI (sI h 84 21 0) 84 19) (sI h 84 21 0) = some (nI ((cls i).1 + 1)) := by rw [G0.2.2.1, p_codeAt G0.1 G0.2.1, c9]
    rw [ec, Option.bind_some, a1, Option.bind_some]
  rw [stp, show (3 : Int32) = nI 3 from rfl, p_passes G2 (by decide)]
  rcases D4 with ⟨d1, d2, d3, d4⟩ | ⟨d1, d2, B, b1, b2, b3⟩
  · rw [if_neg d2, Option.bind_some, if_pos (show ((0 : Int32), sI g1 84 21 0).1 = 0 from rfl)]
    obtain ⟨h2, f1, f2, f3, f4, f5, f6⟩ := fin 1 (sI g1 84 21 0) F2 (by rw [G2.2.2.1, d3])
    refine ⟨h2, f1, f2, f3, f4, f5, told 1 (sI g1 84 21 0) h2 (fun _ => ?_) f6⟩
    rw [d4]
    have e21 : hI (sI g1 84 21 0) 84 21 = 0 := by rw [hI_sI', if_pos ⟨rfl, rfl⟩]
    rcases a4 with ⟨-, -, v, l3, l4, l5⟩ | ⟨l1, l2, l3⟩
    · rw [l3]; exact ⟨i10, e21, l5, l4⟩
    · rw [l1 rfl rfl]; exact Or.inr (Or.inr (by rw [l3]; exact i10))
  · rw [if_pos d2, Option.bind_some, if_neg (show ¬ ((1 : Int32), sI (sI g1 84 21 0) 84 19 (hI (sI g1 84 21 0) 84 19 + 1)).1 = 0 from i10)]
    have jN := GS_lt G2 (by omega)
    obtain ⟨F3, G3⟩ := GS_go G2 jN
    obtain ⟨xb, g3, u1, u2, u3, u4⟩ := b2 _ t false true G3
    have u1 : s_Mod_testOf 1 (sI (sI g1 84 21 0) 84 19 (hI (sI g1 84 21 0) 84 19 + 1)) = some (b01 xb, g3) := u1
    have F4 := FRr_trans (FRr_trans F2 F3) u2
    rw [FRr_95 F3, FRr_95 F2] at u4
    show ∃ h2, ((s_Mod_testOf 1 (sI (sI g1 84 21 0) 84 19 (hI (sI g1 84 21 0) 84 19 + 1))).bind _) = _ ∧ _
    rw [u1, Option.bind_some]
    have e138 : (if (b01 xb, g3).1 = 0 then s_Mod_asks_138 (nI (g + 1)) (nI ((cls i).1 + 1)) x (hI g1 84 21) 0 (b01 xb, g3).2 else s_Mod_asks_138 (nI (g + 1)) (nI ((cls i).1 + 1)) x (hI g1 84 21) 1 (b01 xb, g3).2) = s_Mod_asks_138 (nI (g + 1)) (nI ((cls i).1 + 1)) x (hI g1 84 21) (b01 xb) g3 := by
      cases xb
      · rw [if_pos (show (b01 false, g3).1 = 0 from rfl)]; rfl
      · rw [if_neg (show ¬ (b01 true, g3).1 = 0 from i10)]; rfl
    rw [e138]
    obtain ⟨h2, f1, f2, f3, f4, f5, f6⟩ := fin (b01 xb) g3 F4 u3
    refine ⟨h2, f1, f2, f3, f4, f5, told (b01 xb) g3 h2 (fun _ => ?_) f6⟩
    rw [b3]
    unfold tst
    rcases u4 with ⟨-, -, m3, m4⟩ | ⟨m1, m3⟩
    · rw [m3]
      cases xb
      · exact Or.inl rfl
      · show (match D (wf (hI h 95)) with
          | some v => ¬ b01 true = 0 ∧ hI g3 84 21 = 0 ∧ hI g1 84 21 = 0 ∧ x = v.toInt64
          | none => b01 true = 0 ∨ ¬ hI g3 84 21 = 0 ∨ ¬ hI g1 84 21 = 0)
        rcases a4 with ⟨-, -, v, l3, l4, l5⟩ | ⟨l1, l2, l3⟩
        · rw [l3]; exact ⟨i10, m4, l5, l4⟩
        · rw [l1 rfl rfl]; exact Or.inr (Or.inr (by rw [l3]; exact i10))
    · rw [m1 rfl rfl]
      exact Or.inr (Or.inl (by rw [m3]; exact i10))
theorem p_askR {y : Nat → Nat} {n N M g t : Nat} {ca cb : Nat → Int32} {na : Nat} {cls : Nat → Nat × ((Nat → Int32) → Option Int32)} {kk : Nat → Nat} {h0 : Hp} (F : ∀ i, i < M → CLF y n N ca cb na cls kk i) (kM : kk M = N + 1) (hg : g < 2) : ∀ (q i : Nat) (h : Hp), i + q = M → KT (tC y n) (tV y n) N t h → hI h 84 19 = nI (400 * t + kk i) → eqO sAs h0 h → m84 asF h0 h → AKs cls g i (wf (hI h0 95)) h → ∃ h2, lp (fun q : Int32 × Hp => s_Mod_asks_65 q.1 q.2) (nI (g + 1), h) = some h2 ∧ eqO sAs h0 h2 ∧ m84 asF h0 h2 ∧ AKs cls g M (wf (hI h0 95)) h2 := by
  intro q
  induction q with
  | zero =>
    intro i h hi K eg E m A
    have hi : i = M := by omega
    subst hi
    refine ⟨h, lp_inr ?_, E, m, A⟩
    show s_Mod_asks_65 (nI (g + 1)) h = _
    obtain ⟨k1, k2, -, -, k5, -⟩ := K
    unfold s_Mod_asks_65
    rw [k5, eg, kM, if_pos (by rw [nI_leI (by omega) (by omega)]; omega)]
  | succ q ih =>
    intro i h hi K eg E m A
    have e95 : hI h 95 = hI h0 95 := (E.2 95 (by decide)).1
    obtain ⟨h2, a1, a2, a3, a4, a5, a6⟩ := p_ask1 (F i (by omega)) K eg hg (by rw [e95]; exact A)
    rw [e95] at a6
    rw [lp_inl (f := fun q : Int32 × Hp => s_Mod_asks_65 q.1 q.2) (s := (nI (g + 1), h)) a1]
    exact ih (i + 1) h2 (by omega) a2 a3 (eqO_trans E a4) (m84_trans m a5) a6
def TLw (cls : Nat → Nat × ((Nat → Int32) → Option Int32)) (M : Nat) : TF := fun g a b c d e f k => tn cls g (fun i => [a, b, c, d, e, f, k].getD i 0) M
theorem t7_TLw (cls : Nat → Nat × ((Nat → Int32) → Option Int32)) (M g : Nat) (w : Nat → Int32) : t7 (TLw cls M) g w = tn cls g (wf w) M := rfl
theorem CT_law {y : Nat → Nat} {n N M na : Nat} {ca cb : Nat → Int32} {cls : Nat → Nat × ((Nat → Int32) → Option Int32)} {kk : Nat → Nat} (F : ∀ i, i < M → CLF y n N ca cb na cls kk i) (hM : M ≤ 12) (na4 : na ≤ 400) : CT (TLw cls M) na ca (4 * M) cb := by
  intro h r a b nr hr r0 r1 ha hb n1 n2 e1 e2 g hg
  obtain ⟨h2, b1, b2, b3⟩ := p_tellC F hM nr r0 ha hb n1 n2 na4 e1 e2 hg M h (Nat.le_refl _) (eqO_refl _ _)
  refine ⟨h2, ?_, fun x z => b3 x (by rw [← t7_TLw]; exact z), b2⟩
  unfold s_Teller_tellsBy
  rw [ak_some nr, r1, nn_some, ak_some n2, ln_of n2, t7_TLw]
  exact b1
theorem RefT_law {y : Nat → Nat} {n N M na t : Nat} {ca cb K : Nat → Int32} {cls : Nat → Nat × ((Nat → Int32) → Option Int32)} {kk : Nat → Nat} (F : ∀ i, i < M → CLF y n N ca cb na cls kk i) (k0 : kk 0 = 0) (kM : kk M = N + 1) (t6 : t < 6) (n4 : N ≤ 400) (c0 : tC y n N = 0) (cb0 : ∀ i, tC y n i < 1000) (eK : K (192 + t) = nI N) (eT : ∀ i, i < N → K (198 + 400 * t + i) = nI (tC y n i) ∧ K (2598 + 400 * t + i) = nI (tV y n i)) : RefT K t (TLw cls M) := by
  intro h e190 tk g hg
  obtain ⟨tk1, tk2⟩ := tk
  have E0 : eqO sAs h (sI (sL h 84 23 0) 84 24 0) := eqO_sI (eqO_sL (eqO_refl _ _) (by decide)) (by decide)
  have m0 : m84 asF h (sI (sL h 84 23 0) 84 24 0) := m84_sI (fun k _ => rfl) (Or.inr (by decide))
  have e86 : hI (sI (sL h 84 23 0) 84 24 0) 86 = hI h 86 := by rw [hI_sI_ne (by decide)]; rfl
  obtain ⟨h2, b1, b2, b3, b4⟩ := p_askR (h0 := h) (t := t) (g := g) F kM hg M 0 (sI (sI (sI (sL h 84 23 0) 84 24 0) 84 19 (nI (400 * t))) 84 20 (nI (400 * t + N))) (by omega)
    ⟨t6, n4, c0, cb0, by rw [hI_sI', if_pos ⟨rfl, rfl⟩], fun i hi => by
      rw [hI_sI_ne (by decide), hI_sI_ne (by decide), e86, (tk2 i (by omega)).1, (tk2 i (by omega)).2]
      exact eT i hi⟩ (by rw [hI_sI', if_neg (by omega), hI_sI', if_pos ⟨rfl, rfl⟩, k0]; rfl) (eqO_sI (eqO_sI E0 (by decide)) (by decide)) (m84_sI (m84_sI m0 (Or.inr (by decide))) (Or.inr (by decide))) ⟨by rw [hI_sI', if_neg (by omega), hI_sI', if_neg (by omega), hI_sI', if_pos ⟨rfl, rfl⟩]; rfl, fun v z => by cases z⟩
  refine ⟨h2, ?_, by rw [t7_TLw]; exact b4.1, fun x z => b4.2 x (by rw [← t7_TLw]; exact z), b2, b3⟩
  unfold s_Mod_asks
  rw [lt_eq, ib_some _ (by decide) (by decide), e86, show ix (190 : Int32) = 190 from rfl, e190, if_neg (nI_m1 (by omega)), ib_some _ (by decide) (by decide), show (400 : Int32) * nI t = nI (400 * t) by rw [show (400 : Int32) = nI 400 from rfl, nI_mul], lt_eq, ib_some _ (by decide) (by decide), hI_sI_ne (show (86 : Nat) ≠ 84 by decide), e86, e190, show (192 : Int32) + nI t = nI (192 + t) by rw [show (192 : Int32) = nI 192 from rfl, nI_add], ib_nI (by omega) (by decide), show ix (nI (192 + t)) = 192 + t from nI_clamp (by omega), tk1, eK, hI_sI', if_pos ⟨rfl, rfl⟩, nI_add]
  exact b1
