/-! today, on both sides; flow, cell -/
theorem kf_wind {K : Nat → Int32} (rg : Rg K) : na (mk pF K 39) ≤ 40 := kf_termB rg (i := 9) (by decide) (by decide) (by decide)
theorem kf_glass {K : Nat → Int32} (rg : Rg K) : na (1013 - mk pF K 40) ≤ 100 := by
  rw [kf_eq (by decide)]
  obtain ⟨h1, h2⟩ := Rg_int rg (j := 30 + 10) (by decide) (rj_term 10 (by decide))
  have h1 : (950 : Int32) ≤ K 40 := h1
  have h2 : K 40 ≤ 1050 := h2
  rw [Int32.le_iff_toInt_le] at h1 h2
  rw [show (950 : Int32).toInt = 950 by decide] at h1
  rw [show (1050 : Int32).toInt = 1050 by decide] at h2
  unfold na
  rw [Int32.toInt_sub, show (1013 : Int32).toInt = 1013 by decide, Int.bmod_eq_of_le (by omega) (by omega)]
  omega
theorem sRf_of {j : Nat} (h : sRf j = false) : j ≠ 84 ∧ (j < 95 ∨ 112 < j) := by
  unfold sRf at h
  simp only [Bool.or_eq_false_iff, Bool.and_eq_false_iff, decide_eq_false_iff_not] at h
  omega
def LKd (T : TF) (K : Nat → Int32) (h : Hp) : Prop := (∀ m, m < 1440 → hI h 97 m = td0 T (mk pF K) m) ∧ ∀ k m, k < 6 → m < 1440 → hI h 99 (1440 * k + m) = wh T (mk pF K) (td0 T (mk pF K)) (nI k) m
theorem p_looks {τ : Nat → TF} {K : Nat → Int32} {n : Nat} {h : Hp} (X : RX τ K h) (rc : RC (tin τ K) K n h) : ∃ h2, s_Mod_looks h = some h2 ∧ eqO sRf h h2 ∧ m84 mnF h h2 ∧ RX τ K h2 ∧ RC (tin τ K) K n h2 ∧ LKd (tin τ K) K h2 := by
  obtain ⟨v, hv, h1, h3, h4⟩ := rc
  by_cases he : hI h 84 28 = hI h 84 1
  · refine ⟨h, ?_, eqO_refl _ _, m84_refl _ _, X, ⟨v, hv, h1, h3, h4⟩, h4 he⟩
    unfold s_Mod_looks
    rw [if_pos he]
  · have X0 : RX τ K (sI h 84 28 (hI h 84 1)) := RX_eq X (hI_sI_ne (by decide))
    obtain ⟨hw, w1, w2, w3⟩ := p_windsR (mk pF K 39) (sI h 84 28 (hI h 84 1))
    have Xw : RX τ K hw := RX_eq X0 (w2.2 86 (by decide)).1
    obtain ⟨hf, f1, f2, f3, f4⟩ := p_flows (r := 97) (gl := mk pF K 40) (tb := 0) (W := fun _ => mk pF K 39) Xw (nd_of (by decide) rfl) (by decide) w3 (fun _ _ => kf_wind X.2.1) (kf_glass X.2.1) (by decide)
    have Xf : RX τ K hf := RX_eq Xw (f2.2 86 (sGq_no (by decide) (by decide) (by decide))).1
    obtain ⟨hh, g1, g2, g3, g4⟩ := p_whites Xf f4
    have t9 : s_Mod_term 9 (sI h 84 28 (hI h 84 1)) = some (mk pF K 39) := p_termK X0 (k := 9) (by decide)
    have t10 : s_Mod_term 10 hw = some (mk pF K 40) := p_termK Xw (k := 10) (by decide)
    have E0 : eqO sRf h (sI h 84 28 (hI h 84 1)) := eqO_sI (eqO_refl _ _) (by decide)
    have E1 : eqO sRf h hw := eqO_trans E0 (eqO_mono w2 (fun j hj => decide_eq_false (by have := sRf_of hj; omega)))
    have E2 : eqO sRf h hf := eqO_trans E1 (eqO_mono f2 (fun j hj => by have := sRf_of hj; exact sGq_no (by omega) (by omega) (by omega)))
    have E3 : eqO sRf h hh := eqO_trans E2 (eqO_mono g2 (fun j hj => by
      have := sRf_of hj
      unfold sWh
      rw [decide_eq_false (p := j = 84) (by omega), decide_eq_false (p := j = 95) (by omega), decide_eq_false (p := j = 99) (by omega)]
      rfl))
    have m0 : m84 asF (sI h 84 28 (hI h 84 1)) hh := m84_trans (m84_of w2 (by decide)) (m84_trans f3 g3)
    have m28 : hI hh 84 28 = hI h 84 1 := by rw [m0 28 (by decide), hI_sI', if_pos ⟨rfl, rfl⟩]
    have m1 : hI hh 84 1 = hI h 84 1 := by rw [m0 1 (by decide), hI_sI', if_neg (by decide)]
    have L : LKd (tin τ K) K hh := ⟨fun m hm => by rw [(g2.2 97 (by decide)).1]; exact f4 m hm, g4⟩
    refine ⟨hh, ?_, E3, fun k hk => ?_, RX_eq X (E3.2 86 (by decide)).1, ⟨v, hv, by rw [m1]; exact h1, Or.inr ⟨v, Nat.le_refl _, by rw [m28]; exact h1⟩, fun _ => L⟩, L⟩
    · unfold s_Mod_looks
      rw [if_neg he, t9, Option.bind_some, w1, Option.bind_some, t10, Option.bind_some, f1, Option.bind_some, g1, Option.bind_some]
    · have hk2 : asF k = true ∧ k ≠ 28 := by
        unfold mnF at hk
        simp only [Bool.or_eq_true, decide_eq_true_eq] at hk
        rcases hk with ((((rfl | rfl) | rfl) | rfl) | rfl) | rfl <;> decide
      rw [m0 k hk2.1, hI_sI', if_neg (fun z => hk2.2 z.2)]
/-- the class's: what is worked out of flows may be new, the rest is as before -/
theorem CC_gen {T : TF} {K : Nat → Int32} {h h1 : Hp} (H : CC T K h) (f : ∀ j, 58 ≤ j → j ≤ 82 → hI h1 j = hI h j) (c9 : C9 (mk pF K) h1) (c10 : C10 T (mk pF K) h1) (c11 : C11 T (mk pF K) h1) (c12 : C12 T (mk pF K) h1) (c56 : C56 T (mk pF K) h1) (c13 : C13 T (mk pF K) h1) : CC T K h1 := by
  obtain ⟨⟨-, -, -, -, -, -, c58, c78⟩, c69, c74⟩ := H
  refine ⟨⟨c9, c10, c11, c12, c56, c13, ?_, ?_⟩, C69_eq (f 69 (by decide) (by decide)) (f 72 (by decide) (by decide)) (f 73 (by decide) (by decide)) rfl rfl c69, C74_eq (f 74 (by decide) (by decide)) (f 77 (by decide) (by decide)) rfl c74⟩
  · unfold C58; rw [f 58 (by decide) (by decide), f 59 (by decide) (by decide), f 60 (by decide) (by decide)]; exact c58
  · unfold C78 ruOK; rw [f 78 (by decide) (by decide), f 79 (by decide) (by decide)]; exact c78
/-- what a class's question counts on: the state, the laws, what is worked out -/
def QX (τ : Nat → TF) (K : Nat → Int32) (h : Hp) : Prop := CX (tin τ K) K h ∧ LW τ K h 1
theorem QX_of {τ : Nat → Nat → TF} {n : Nat} {h : Hp} (hi : InvT τ n h) : QX (τ 0) (hI h 86) h := ⟨Inv_CX hi, hi.1.2.2⟩
theorem LW_eq {S : Nat → Bool} {τ : Nat → TF} {K : Nat → Int32} {h h1 : Hp} (E : eqO S h h1) (hs : ∀ j, NS ≤ j → (kd h j).2 ≤ 400 → S j = false) (lw : LW τ K h 1) : LW τ K h1 1 := LW_Fr (Fr_of2 E hs) (by decide) lw rfl (fun _ _ => rfl)
def sTd (j : Nat) : Bool := decide (50 ≤ j) && decide (j ≤ 57)
theorem sTd_of {j : Nat} (h : sTd j = false) : j < 50 ∨ 57 < j := by
  unfold sTd at h
  simp only [Bool.and_eq_false_iff, decide_eq_false_iff_not] at h
  omega
theorem sTd_no {j : Nat} (h : j < 50 ∨ 57 < j) : sTd j = false := by
  unfold sTd
  rcases h with h | h
  · rw [decide_eq_false (p := 50 ≤ j) (by omega)]; rfl
  · rw [decide_eq_false (p := j ≤ 57) (by omega), Bool.and_false]
theorem sTd_sC (j : Nat) (h : sC j = false) : sTd j = false := by
  unfold sC at h
  simp only [Bool.and_eq_false_iff, decide_eq_false_iff_not] at h
  exact sTd_no (by omega)
theorem p_today {τ : Nat → TF} {K : Nat → Int32} {h : Hp} (X : QX τ K h) : ∃ h1, s_Water_freshenToday h = some h1 ∧ eqO sTd h h1 ∧ QX τ K h1 ∧ hI h1 50 9 = 1 ∧ hI h1 50 10 = 1 ∧ TdOK (mk pF K) h1 ∧ ∀ m, m < 1440 → hI h1 57 m = td0 (tin τ K) (mk pF K) m := by
  obtain ⟨⟨st, rg, rw0, cc⟩, lw⟩ := X
  rcases cc.1.2.1 with c | ⟨c1, c2, c3⟩
  · have t9 : hI h 4 9 = mk pF K 39 := kf_term st 9 (by decide)
    have n55 : nd h 55 0 24 := nd_of (by decide) rfl
    have E1 : eqO sTd h (wI h 55 (fun k => if k < 24 then mk pF K 39 else hI h 55 k)) := eqO_wI (eqO_refl _ _) (by decide)
    have st1 : StP K (wI h 55 (fun k => if k < 24 then mk pF K 39 else hI h 55 k)) 1 := StP_eq E1 (fun j h1 h2 => sTd_no (by omega)) st
    have lw1 : LW τ K (wI h 55 (fun k => if k < 24 then mk pF K 39 else hI h 55 k)) 1 := LW_eq E1 (fun j hj _ => sTd_no (by have : 114 ≤ j := hj; omega)) lw
    have c9' : C9 (mk pF K) (wI h 55 (fun k => if k < 24 then mk pF K 39 else hI h 55 k)) := C9_node (hI_wI_ne (by decide)) (hI_wI_ne (by decide)) cc.1.1
    obtain ⟨h2, r1, r2, r3, r4, r5, r6⟩ := p_run (r := 57) (gl := mk pF K 40) (tb := 0) (W := fun _ => mk pF K 39) st1 rg lw1 c9' (nd_of (by decide) rfl) (Or.inl rfl) (fun i hi => by rw [hI_wI, if_pos hi]) (fun _ _ => kf_wind rg) (kf_glass rg) (by decide)
    have E2 : eqO sTd h h2 := eqO_trans E1 (eqO_mono r3 (fun j hj => sRn_no (by have := sTd_of hj; omega) (by have := sTd_of hj; omega)))
    have E3 : eqO sTd h (sI h2 50 10 1) := eqO_sI E2 (by decide)
    have a50 : ∀ k, k ≠ 9 → k ≠ 10 → hI (sI h2 50 10 1) 50 k = hI h 50 k := fun k k1 k2 => by
      rw [hI_sI', if_neg (by omega), r6 k k1, hI_wI_ne (by decide)]
    have a9 : hI (sI h2 50 10 1) 50 9 = 1 := by rw [hI_sI', if_neg (by decide)]; exact r4
    have a10 : hI (sI h2 50 10 1) 50 10 = 1 := by rw [hI_sI', if_pos ⟨rfl, rfl⟩]
    have atd : TdOK (mk pF K) (sI h2 50 10 1) := by unfold TdOK; rw [hI_sI_ne (by decide)]; exact r5
    have a57 : ∀ m, m < 1440 → hI (sI h2 50 10 1) 57 m = td0 (tin τ K) (mk pF K) m := fun m hm => by rw [hI_sI_ne (by decide)]; exact r2 m hm
    have l56 : hL (sI h2 50 10 1) 56 = hL h 56 := by rw [hL_sI, (r3.2 56 (by decide)).2]; rfl
    have hr := hR_of E3.1
    have drow : ∀ r, NS ≤ r → hI (sI h2 50 10 1) r = hI h r := fun r z => (E3.2 r (sTd_no (by have : 114 ≤ r := z; omega))).1
    refine ⟨sI h2 50 10 1, ?_, E3, ⟨⟨StP_eq E3 (fun j h1 h2 => sTd_no (by omega)) st, rg, RW_eq E3.1 rw0, CC_gen cc (fun j h1 h2 => (E3.2 j (sTd_no (by omega))).1) (Or.inr ⟨a9, atd⟩) (Or.inr ⟨a10, a9, a57⟩) ?_ ?_ ?_ ?_⟩, LW_eq E3 (fun j hj _ => sTd_no (by have : 114 ≤ j := hj; omega)) lw⟩, a9, a10, atd, a57⟩
    · unfold s_Water_freshenToday s_Water_freshenToday_48
      rw [if_pos c, ib_some _ (by decide) (by decide), show ix 9 = 9 by decide, t9, p_fillI n55 (by decide), Option.bind_some, ib_some _ (by decide) (by decide), show ix 10 = 10 by decide, kf_term st1 10 (by decide), r1, Option.bind_some]
    · unfold C11
      rw [a50 11 (by decide) (by decide), hr]
      rcases cc.1.2.2.1 with c | ⟨d1, r, d2, d3⟩
      · exact Or.inl c
      · exact Or.inr ⟨d1, r, d2, by rw [drow r (rw0.1 r d2).1]; exact d3⟩
    · unfold C12
      rw [a50 12 (by decide) (by decide), hr, l56]
      rcases cc.1.2.2.2.1 with c | ⟨n, d1, d2, d3, r, d4, d5⟩
      · exact Or.inl c
      · exact Or.inr ⟨n, d1, d2, d3, r, d4, by rw [drow r (rw0.2.1 r d4).1]; exact d5⟩
    · unfold C56; rw [l56]; exact cc.1.2.2.2.2.1
    · unfold C13; rw [a50 13 (by decide) (by decide)]; exact cc.1.2.2.2.2.2.1
  · refine ⟨h, ?_, eqO_refl _ _, ⟨⟨st, rg, rw0, cc⟩, lw⟩, c2, c1, ?_, c3⟩
    · unfold s_Water_freshenToday s_Water_freshenToday_48
      rw [c1, if_neg (by decide)]
    · rcases cc.1.1 with z | z
      · rw [c2] at z; cases z
      · exact z.2
theorem QX_CQ {τ : Nat → TF} {K : Nat → Int32} {h h1 : Hp} (X : QX τ K h) (E : eqO sC h h1) (X1 : QX τ K h1) : CQ (tin τ K) K h h1 := CQ_of E X.1.2.2.1 X1.1.2.2.2
theorem RX_of {τ : Nat → Nat → TF} {n : Nat} {h h1 : Hp} (hi : InvT τ n h) (e : hI h1 86 = hI h 86) : RX (τ 0) (hI h 86) h1 := ⟨e, hi.1.2.1, fun t h6 ht => by
  obtain ⟨r, -, -, z⟩ := hi.1.2.2 t h6 ht
  exact z⟩
/-- a question's end -/
def RE (T : TF) (K : Nat → Int32) (n : Nat) (h1 h2 : Hp) : Prop := eqO sRf h1 h2 ∧ m84 mnF h1 h2 ∧ RC T K n h2
theorem RE_refl {T : TF} {K : Nat → Int32} {n : Nat} {h : Hp} (rc : RC T K n h) : RE T K n h h := ⟨eqO_refl _ _, m84_refl _ _, rc⟩
theorem ask {n : Nat} {h : Hp} (hi : Inv n h) {f g : Hp → Option (Int32 × Hp)} (a : TF → (Nat → Int32) → Int32) (C : ∀ τ K, QX τ K h → ∃ h1, f h = some (a (tin τ K) K, h1) ∧ CQ (tin τ K) K h h1)
    (R : ∀ τ K k h1, RX τ K h1 → RC (tin τ K) K k h1 → ∃ h2, g h1 = some (a (tin τ K) K, h2) ∧ RE (tin τ K) K k h1 h2) : ∃ h2, ((f h).bind fun u => (g u.2).bind fun w => if u.1 = w.1 then some w.2 else none) = some h2 ∧ Inv (n + 1) h2 := by
  obtain ⟨τ, hi⟩ := hi
  obtain ⟨h1, e1, c⟩ := C (τ 0) (hI h 86) (QX_of hi)
  obtain ⟨h2, e2, r1, r2, r3⟩ := R (τ 0) (hI h 86) (n + 1) h1 (RX_of hi (CQ_86 c (by decide) (by decide))) (RC_CQ c hi.2.2.2.2.2.2.1)
  refine ⟨h2, ?_, τ, query_ok2 hi c ⟨r1, r2, r3⟩⟩
  rw [e1, Option.bind_some]
  show ((g h1).bind fun w => if a (tin (τ 0) (hI h 86)) (hI h 86) = w.1 then some w.2 else none) = _
  rw [e2, Option.bind_some]
  exact if_pos rfl
def aFlow (x1 : Int32) (T : TF) (K : Nat → Int32) : Int32 := if wi x1 0 1439 = 0 then -100000 else td0 T (mk pF K) (ix x1)
theorem C_flow {τ : Nat → TF} {K : Nat → Int32} {h : Hp} (x1 : Int32) (X : QX τ K h) : ∃ h1, s_Race_flow x1 h = some (aFlow x1 (tin τ K) K, h1) ∧ CQ (tin τ K) K h h1 := by
  unfold s_Race_flow aFlow
  rw [p_isMinuteC, Option.bind_some]
  by_cases hm : wi x1 0 1439 = 0
  · rw [if_pos hm, if_pos hm]
    exact ⟨h, rfl, QX_CQ X (eqO_refl _ _) X⟩
  · obtain ⟨m, l1, rfl⟩ := wi_nat (b := 1439) (by decide) (wi_n0 hm)
    obtain ⟨h1, a1, a2, a3, a4, a5, a6, a7⟩ := p_today X
    rw [if_neg hm, if_neg hm, a1, Option.bind_some, ib_nI (by omega) (by decide), show ix (nI m) = m from nI_clamp (by omega), a7 m (by omega)]
    exact ⟨h1, rfl, QX_CQ X (eqO_mono a2 sTd_sC) a3⟩
theorem R_flow {τ : Nat → TF} {K : Nat → Int32} {n : Nat} {h : Hp} (x1 : Int32) (X : RX τ K h) (rc : RC (tin τ K) K n h) : ∃ h2, s_Mod_flow x1 h = some (aFlow x1 (tin τ K) K, h2) ∧ RE (tin τ K) K n h h2 := by
  unfold s_Mod_flow aFlow
  rw [p_isMinuteR, Option.bind_some]
  by_cases hm : wi x1 0 1439 = 0
  · rw [if_pos hm, if_pos hm]
    exact ⟨h, rfl, RE_refl rc⟩
  · obtain ⟨m, l1, rfl⟩ := wi_nat (b := 1439) (by decide) (wi_n0 hm)
    obtain ⟨h2, b1, b2, b3, b4, b5, b6⟩ := p_looks X rc
    rw [if_neg hm, if_neg hm, b1, Option.bind_some, ib_nI (by omega) (by decide), show ix (nI m) = m from nI_clamp (by omega), b6.1 m (by omega)]
    exact ⟨h2, rfl, b2, b3, b5⟩
theorem Q_flow (n : Nat) (x1 : Int32) (h : Hp) (_ : n < 512) (hi : Inv n h) : ∃ h2, q_flow x1 h = some h2 ∧ Inv (n + 1) h2 := ask hi (aFlow x1) (fun _ _ X => C_flow x1 X) (fun _ _ _ _ X rc => R_flow x1 X rc)
/-- cell -/
theorem Rg_kind {K : Nat → Int32} (rg : Rg K) {c : Nat} (hc : c < 50) : ∃ k, k < 6 ∧ K (41 + c) = nI k := by
  obtain ⟨k, hk, e⟩ := Rg_nat rg (j := 41 + c) (b := 5) (by omega) (rj_kind c hc) (by decide)
  exact ⟨k, by omega, e⟩
theorem p_kindC {K : Nat → Int32} {h : Hp} (st : StP K h 1) {c : Nat} (hc : c < 50) : hI h 5 c = K (41 + c) := StP_at st (by omega) (pl_kind c hc)
theorem p_kindR {τ : Nat → TF} {K : Nat → Int32} {h : Hp} (X : RX τ K h) {c : Nat} (hc : c < 50) : s_Mod_kindOf (nI c) h = some (K (41 + c)) := by
  unfold s_Mod_kindOf
  rw [show (41 : Int32) = nI 41 from rfl, nI_add, ib_nI (by omega) (by decide), show ix (nI (41 + c)) = 41 + c from nI_clamp (by omega), X.1]
theorem FX_of {τ : Nat → TF} {K : Nat → Int32} {h : Hp} (X : QX τ K h) (t : TdOK (mk pF K) h) : FX τ K h := ⟨X.1.1, X.1.2.1, X.2, t⟩
theorem QX_gn {τ : Nat → TF} {K : Nat → Int32} {h h1 : Hp} (X : QX τ K h) (E : eqO sGn h h1) : QX τ K h1 := by
  obtain ⟨⟨st, rg, rw0, cc⟩, lw⟩ := X
  have no : ∀ j, j < 51 ∨ 53 < j → sGn j = false := fun j hj => by
    unfold sGn
    rw [decide_eq_false (p := j = 51) (by omega), decide_eq_false (p := j = 52) (by omega), decide_eq_false (p := j = 53) (by omega)]
    rfl
  have f : ∀ j, j < 51 ∨ 53 < j → hI h1 j = hI h j := fun j hj => (E.2 j (no j hj)).1
  have hr := hR_of E.1
  refine ⟨⟨StP_eq E (fun j h1 h2 => no j (by omega)) st, rg, RW_eq E.1 rw0, CF_eq (f 50 (by decide)) (f 54 (by decide)) (f 57 (by decide)) (f 58 (by decide)) (f 59 (by decide)) (f 60 (by decide)) (f 78 (by decide)) (f 79 (by decide)) (E.2 56 (by decide)).2 (by rw [hr]) (by rw [hr]) (fun r z => f r (by have : 114 ≤ r := (rw0.1 r z).1; omega)) (fun r z => f r (by have : 114 ≤ r := (rw0.2.1 r z).1; omega)) cc.1, C69_eq (f 69 (by decide)) (f 72 (by decide)) (f 73 (by decide)) rfl rfl cc.2.1, C74_eq (f 74 (by decide)) (f 77 (by decide)) rfl cc.2.2⟩, LW_eq E (fun j hj _ => no j (by have : 114 ≤ j := hj; omega)) lw⟩
theorem sGn_sC (j : Nat) (h : sC j = false) : sGn j = false := by
  unfold sC at h
  simp only [Bool.and_eq_false_iff, decide_eq_false_iff_not] at h
  unfold sGn
  rw [decide_eq_false (p := j = 51) (by omega), decide_eq_false (p := j = 52) (by omega), decide_eq_false (p := j = 53) (by omega)]
  rfl
def aCell (x1 x2 x3 : Int32) (T : TF) (K : Nat → Int32) : Int32 := if wi x1 0 49 = 0 then -100000 else if wi x2 0 1439 = 0 then -100000 else if wi x3 0 2 = 0 then -100000 else
  if x3 = 0 then fa (mk pF K) (td0 T (mk pF K)) (K (41 + ix x1)) (ix x2) else if x3 = 1 then wh T (mk pF K) (td0 T (mk pF K)) (K (41 + ix x1)) (ix x2) else K (41 + ix x1)
theorem C_cell {τ : Nat → TF} {K : Nat → Int32} {h : Hp} (x1 x2 x3 : Int32) (X : QX τ K h) : ∃ h1, s_Race_cell x1 x2 x3 h = some (aCell x1 x2 x3 (tin τ K) K, h1) ∧ CQ (tin τ K) K h h1 := by
  unfold s_Race_cell aCell s_Race_cell_23 s_Race_cell_79
  rw [p_isCellC, Option.bind_some]
  by_cases hc : wi x1 0 49 = 0
  · rw [if_pos hc, if_pos hc]
    exact ⟨h, rfl, QX_CQ X (eqO_refl _ _) X⟩
  rw [if_neg hc, if_neg hc, p_isMinuteC, Option.bind_some]
  by_cases hm : wi x2 0 1439 = 0
  · rw [if_pos hm, if_pos hm]
    exact ⟨h, rfl, QX_CQ X (eqO_refl _ _) X⟩
  rw [if_neg hm, if_neg hm, p_within, Option.bind_some]
  by_cases hw : wi x3 0 2 = 0
  · rw [if_pos hw, if_pos hw]
    exact ⟨h, rfl, QX_CQ X (eqO_refl _ _) X⟩
  rw [if_neg hw, if_neg hw]
  obtain ⟨c, l1, rfl⟩ := wi_nat (b := 49) (by decide) (wi_n0 hc)
  obtain ⟨m, l2, rfl⟩ := wi_nat (b := 1439) (by decide) (wi_n0 hm)
  obtain ⟨w, l3, rfl⟩ := wi_nat (b := 2) (by decide) (wi_n0 hw)
  rw [ib_nI (by omega) (by decide), show ix (nI c) = c from nI_clamp (by omega), show ix (nI m) = m from nI_clamp (by omega), p_kindC X.1.1 (by omega)]
  rcases (show w = 0 ∨ w = 1 ∨ w = 2 by omega) with rfl | rfl | rfl
  · obtain ⟨h1, a1, a2, a3, a4, a5, a6, a7⟩ := p_today X
    rw [if_neg (by decide), a1, Option.bind_some, if_pos (by decide), if_pos (by decide), p_flowOf a3.1.1 a3.1.2.1 a7 (by omega), Option.bind_some]
    exact ⟨h1, rfl, QX_CQ X (eqO_mono a2 sTd_sC) a3⟩
  · obtain ⟨h1, a1, a2, a3, a4, a5, a6, a7⟩ := p_today X
    obtain ⟨h2, b1, b2⟩ := p_whiteC (FX_of a3 a6) a7 (m := m) (by omega) (K (41 + c))
    rw [if_neg (by decide), a1, Option.bind_some, if_neg (by decide), if_neg (by decide), if_pos (by decide), b1, Option.bind_some]
    exact ⟨h2, rfl, QX_CQ X (eqO_trans (eqO_mono a2 sTd_sC) (eqO_mono b2 sGn_sC)) (QX_gn a3 b2)⟩
  · rw [if_pos (by decide), if_neg (by decide), if_neg (by decide)]
    exact ⟨h, rfl, QX_CQ X (eqO_refl _ _) X⟩
theorem R_cell {τ : Nat → TF} {K : Nat → Int32} {n : Nat} {h : Hp} (x1 x2 x3 : Int32) (X : RX τ K h) (rc : RC (tin τ K) K n h) : ∃ h2, s_Mod_cell x1 x2 x3 h = some (aCell x1 x2 x3 (tin τ K) K, h2) ∧ RE (tin τ K) K n h h2 := by
  unfold s_Mod_cell aCell s_Mod_cell_23 s_Mod_cell_77
  rw [p_isCellR, Option.bind_some]
  by_cases hc : wi x1 0 49 = 0
  · rw [if_pos hc, if_pos hc]
    exact ⟨h, rfl, RE_refl rc⟩
  rw [if_neg hc, if_neg hc, p_isMinuteR, Option.bind_some]
  by_cases hm : wi x2 0 1439 = 0
  · rw [if_pos hm, if_pos hm]
    exact ⟨h, rfl, RE_refl rc⟩
  rw [if_neg hm, if_neg hm, p_lies, Option.bind_some]
  by_cases hw : wi x3 0 2 = 0
  · rw [if_pos hw, if_pos hw]
    exact ⟨h, rfl, RE_refl rc⟩
  rw [if_neg hw, if_neg hw]
  obtain ⟨c, l1, rfl⟩ := wi_nat (b := 49) (by decide) (wi_n0 hc)
  obtain ⟨m, l2, rfl⟩ := wi_nat (b := 1439) (by decide) (wi_n0 hm)
  obtain ⟨w, l3, rfl⟩ := wi_nat (b := 2) (by decide) (wi_n0 hw)
  obtain ⟨h2, b1, b2, b3, b4, b5, b6⟩ := p_looks X rc
  obtain ⟨k, hk, ek⟩ := Rg_kind X.2.1 (show c < 50 by omega)
  rw [b1, Option.bind_some, p_kindR b4 (by omega), Option.bind_some, Option.bind_some, Option.bind_some, show ix (nI c) = c from nI_clamp (by omega), show ix (nI m) = m from nI_clamp (by omega), p_flowAt b4 b6.1 (by omega), Option.bind_some]
  refine ⟨h2, ?_, b2, b3, b5⟩
  rcases (show w = 0 ∨ w = 1 ∨ w = 2 by omega) with rfl | rfl | rfl
  · rw [if_pos (by decide), if_pos (by decide)]
  · rw [if_neg (by decide), if_pos (by decide), if_neg (by decide), if_pos (by decide), ek, show (1440 : Int32) = nI 1440 from rfl, nI_mul, nI_add, ib_nI (by omega) (by decide), show ix (nI (1440 * k + m)) = 1440 * k + m from nI_clamp (by omega), b6.2 k m hk (by omega)]
  · rw [if_neg (by decide), if_neg (by decide), if_neg (by decide), if_neg (by decide)]
theorem Q_cell (n : Nat) (x1 x2 x3 : Int32) (h : Hp) (_ : n < 512) (hi : Inv n h) : ∃ h2, q_cell x1 x2 x3 h = some h2 ∧ Inv (n + 1) h2 := ask hi (aCell x1 x2 x3) (fun _ _ X => C_cell x1 x2 x3 X) (fun _ _ _ _ X rc => R_cell x1 x2 x3 X rc)
