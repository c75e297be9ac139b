/-! feed, row -/
def bC (v : Int32) (i : Nat) : Int32 := z_ushr v (nI (24 - 8 * i)) &&& 255
def sTp (j : Nat) : Bool := decide (j = 45) || decide (j = 46)
def FB (k i : Nat) (vf : Nat → Int32) (h g : Hp) : Prop := eqO sTp h g ∧ (∀ q, q ≠ 1 → hI g 45 q = hI h 45 q) ∧ hI g 45 1 = nI (k + i) ∧ ∀ q, hI g 46 q = if k ≤ q ∧ q < k + i then bC (vf ((q - k) / 4)) ((q - k) % 4) else hI h 46 q
theorem p_add3 {v sh : Int32} {g : Hp} {m : Nat} (hm : m < 400) (e : hI g 45 1 = nI m) (hs : ¬ sh < 0) : s_Tape_add_3 v sh g = some (.inl (v, sh + (-8), sI (sI g 46 m (z_ushr v sh &&& 255)) 45 1 (nI (m + 1)))) := by
  unfold s_Tape_add_3
  rw [if_neg hs, e, if_neg (by rw [show (400 : Int32) = nI 400 from rfl, nI_leI (by decide) (by omega)]; omega), ib_nI hm (by decide), show ix (nI m) = m from nI_clamp (by omega), lt_eq, hI_sI_ne (by decide), e, nI_1]
theorem FB_set {k i : Nat} {vf : Nat → Int32} {h g : Hp} (H : FB k i vf h g) : FB k (i + 1) vf h (sI (sI g 46 (k + i) (bC (vf (i / 4)) (i % 4))) 45 1 (nI (k + i + 1))) := by
  obtain ⟨e1, e2, e3, e4⟩ := H
  refine ⟨eqO_sI (eqO_sI e1 (by decide)) (by decide), fun q hq => ?_, ?_, fun q => ?_⟩
  · rw [hI_sI', if_neg (by omega), hI_sI_ne (by decide)]; exact e2 q hq
  · rw [hI_sI', if_pos ⟨rfl, rfl⟩]; rfl
  · rw [hI_sI_ne (by decide), hI_sI', e4]
    by_cases z : q = k + i
    · rw [if_pos ⟨rfl, z⟩, if_pos (by omega), show q - k = i by omega]
    · rw [if_neg (fun y => z y.2)]
      by_cases y : k ≤ q ∧ q < k + i
      · rw [if_pos y, if_pos (by omega)]
      · rw [if_neg y, if_neg (by omega)]
theorem p_add {k i : Nat} {vf : Nat → Int32} {h g : Hp} (H : FB k (4 * i) vf h g) (hk : k + 4 * i + 4 ≤ 400) : ∃ g2, s_Tape_add (vf i) g = some g2 ∧ FB k (4 * (i + 1)) vf h g2 := by
  have H1 := FB_set H
  have H2 := FB_set H1
  have H3 := FB_set H2
  have H4 := FB_set H3
  refine ⟨_, ?_, H4⟩
  have d0 : 4 * i / 4 = i ∧ 4 * i % 4 = 0 := by omega
  have d1 : (4 * i + 1) / 4 = i ∧ (4 * i + 1) % 4 = 1 := by omega
  have d2 : (4 * i + 1 + 1) / 4 = i ∧ (4 * i + 1 + 1) % 4 = 2 := by omega
  have d3 : (4 * i + 1 + 1 + 1) / 4 = i ∧ (4 * i + 1 + 1 + 1) % 4 = 3 := by omega
  rw [d0.1, d0.2] at H1
  rw [d1.1, d1.2, d0.1, d0.2] at H2
  rw [d2.1, d2.2, d1.1, d1.2, d0.1, d0.2] at H3
  rw [d3.1, d3.2, d2.1, d2.2, d1.1, d1.2, d0.1, d0.2]
  unfold s_Tape_add
  rw [lp_inl (p_add3 (v := vf i) (sh := 24) (g := g) (m := k + 4 * i) (by omega) H.2.2.1 (by decide))]
  rw [lp_inl (p_add3 (v := vf i) (sh := 24 + (-8)) (m := k + (4 * i + 1)) (by omega) H1.2.2.1 (by decide))]
  rw [lp_inl (p_add3 (v := vf i) (sh := 24 + (-8) + (-8)) (m := k + (4 * i + 1 + 1)) (by omega) H2.2.2.1 (by decide))]
  rw [lp_inl (p_add3 (v := vf i) (sh := 24 + (-8) + (-8) + (-8)) (m := k + (4 * i + 1 + 1 + 1)) (by omega) H3.2.2.1 (by decide))]
  refine lp_inr ?_
  show s_Tape_add_3 (vf i) (24 + (-8) + (-8) + (-8) + (-8)) _ = _
  unfold s_Tape_add_3 s_Tape_add_49
  rw [if_pos (by decide)]
  rfl
def v5 (x1 x2 x3 x4 x5 : Int32) (i : Nat) : Int32 := [x1, x2, x3, x4, x5].getD i 0
theorem p_feedC {k : Nat} {h : Hp} (x1 x2 x3 x4 x5 : Int32) (hk : k + 20 ≤ 400) (e : hI h 45 1 = nI k) : ∃ h1, s_Race_feed x1 x2 x3 x4 x5 h = some (nI (k + 20), h1) ∧ FB k 20 (v5 x1 x2 x3 x4 x5) h h1 := by
  have H0 : FB k (4 * 0) (v5 x1 x2 x3 x4 x5) h h := ⟨eqO_refl _ _, fun _ _ => rfl, e, fun q => by rw [if_neg (by omega)]⟩
  obtain ⟨g1, a1, b1⟩ := p_add H0 (by omega)
  obtain ⟨g2, a2, b2⟩ := p_add b1 (by omega)
  obtain ⟨g3, a3, b3⟩ := p_add b2 (by omega)
  obtain ⟨g4, a4, b4⟩ := p_add b3 (by omega)
  obtain ⟨g5, a5, b5⟩ := p_add b4 (by omega)
  refine ⟨g5, ?_, b5⟩
  have a1 : s_Tape_add x1 h = some g1 := a1
  have a2 : s_Tape_add x2 g1 = some g2 := a2
  have a3 : s_Tape_add x3 g2 = some g3 := a3
  have a4 : s_Tape_add x4 g3 = some g4 := a4
  have a5 : s_Tape_add x5 g4 = some g5 := a5
  unfold s_Race_feed
  rw [e, show (20 : Int32) = nI 20 from rfl, nI_add, if_pos (by rw [show (400 : Int32) = nI 400 from rfl, nI_leI (by omega) (by decide)]; exact hk), a1, Option.bind_some, a2, Option.bind_some, a3, Option.bind_some, a4, Option.bind_some, a5, Option.bind_some, b5.2.2.1]
theorem p_feedR {k : Nat} {h : Hp} (x1 x2 x3 x4 x5 : Int32) (hk : k + 20 ≤ 400) (e : hI h 84 10 = nI k) : ∃ h1, s_Mod_feed x1 x2 x3 x4 x5 h = some (nI (k + 20), h1) ∧ eqO (fun j => decide (j = 84) || decide (j = 90) || decide (j = 91)) h h1 ∧ (∀ q, hI h1 84 q = if q = 10 then nI (k + 20) else hI h 84 q) ∧ ∀ q, hI h1 90 q = if k ≤ q ∧ q < k + 20 then z_i2b (bC (v5 x1 x2 x3 x4 x5 ((q - k) / 4)) ((q - k) % 4)) else hI h 90 q := by
  have f5 : ∀ i, i < 5 → hI (sI (sI (sI (sI (sI h 91 0 x1) 91 1 x2) 91 2 x3) 91 3 x4) 91 4 x5) 91 i = v5 x1 x2 x3 x4 x5 i := fun i hi => by
    rcases (show i = 0 ∨ i = 1 ∨ i = 2 ∨ i = 3 ∨ i = 4 by omega) with rfl | rfl | rfl | rfl | rfl <;> simp [hI_sI', v5]
  have E0 : eqO (fun j => decide (j = 84) || decide (j = 90) || decide (j = 91)) h (sI (sI (sI (sI (sI h 91 0 x1) 91 1 x2) 91 2 x3) 91 3 x4) 91 4 x5) := eqO_sI (eqO_sI (eqO_sI (eqO_sI (eqO_sI (eqO_refl _ _) (by decide)) (by decide)) (by decide)) (by decide)) (by decide)
  have key : ∀ (q m : Nat) (g : Hp), m + q = 20 → eqO (fun j => decide (j = 84) || decide (j = 90) || decide (j = 91)) h g → (∀ i, i < 5 → hI g 91 i = v5 x1 x2 x3 x4 x5 i) → hI g 84 = hI h 84 → (∀ q, hI g 90 q = if k ≤ q ∧ q < k + m then z_i2b (bC (v5 x1 x2 x3 x4 x5 ((q - k) / 4)) ((q - k) % 4)) else hI h 90 q) → ∃ h1, lp (fun q : Int32 × Hp => s_Mod_feed_55 q.1 q.2) (nI m, g) = some (nI (k + 20), h1) ∧ eqO (fun j => decide (j = 84) || decide (j = 90) || decide (j = 91)) h h1 ∧ (∀ q, hI h1 84 q = if q = 10 then nI (k + 20) else hI h 84 q) ∧ ∀ q, hI h1 90 q = if k ≤ q ∧ q < k + 20 then z_i2b (bC (v5 x1 x2 x3 x4 x5 ((q - k) / 4)) ((q - k) % 4)) else hI h 90 q := by
    intro q
    induction q with
    | zero =>
      intro m g hm E e1 e2 e3
      have hm : m = 20 := by omega
      subst hm
      refine ⟨sI g 84 10 (nI (k + 20)), lp_inr ?_, eqO_sI E (by decide), fun q => ?_, fun q => ?_⟩
      · show s_Mod_feed_55 (nI 20) g = _
        unfold s_Mod_feed_55
        rw [if_pos (show (20 : Int32) ≤ nI 20 by decide), lt_eq, e2, e, show (20 : Int32) = nI 20 from rfl, nI_add, hI_sI', if_pos ⟨rfl, rfl⟩]
      · rw [hI_sI', e2]
        by_cases z : q = 10
        · rw [if_pos ⟨rfl, z⟩, if_pos z]
        · rw [if_neg (fun y => z y.2), if_neg z]
      · rw [hI_sI_ne (by decide)]; exact e3 q
    | succ q ih =>
      intro m g hm E e1 e2 e3
      have hsh : (24 : Int32) - 8 * z_rem (nI m) 4 = nI (24 - 8 * (m % 4)) := by
        rw [show (4 : Int32) = nI 4 from rfl, nI_rem (by omega) (by decide), show (8 : Int32) = nI 8 from rfl, nI_mul, show (24 : Int32) = nI 24 from rfl, nI_sub (by omega)]
      have hb : z_nb (z_i2b (z_shr (v5 x1 x2 x3 x4 x5 (m / 4)) (nI (24 - 8 * (m % 4))))) = z_i2b (bC (v5 x1 x2 x3 x4 x5 (m / 4)) (m % 4)) := by
        rw [z_nb_i2b, byt_eq _ (by omega)]
        rfl
      obtain ⟨h1, a1, a2⟩ := ih (m + 1) (sI g 90 (k + m) (z_i2b (bC (v5 x1 x2 x3 x4 x5 (m / 4)) (m % 4)))) (by omega) (eqO_sI E (by decide)) (fun i hi => by rw [hI_sI_ne (by decide)]; exact e1 i hi) (by rw [hI_sI_ne (by decide)]; exact e2) (fun q => by
        rw [hI_sI', e3]
        by_cases z : q = k + m
        · rw [if_pos ⟨rfl, z⟩, if_pos (by omega), show q - k = m by omega]
        · rw [if_neg (fun y => z y.2)]
          by_cases y : k ≤ q ∧ q < k + m
          · rw [if_pos y, if_pos (by omega)]
          · rw [if_neg y, if_neg (by omega)])
      refine ⟨h1, ?_, a2⟩
      rw [lp_inl (s' := (nI (m + 1), sI g 90 (k + m) (z_i2b (bC (v5 x1 x2 x3 x4 x5 (m / 4)) (m % 4))))) ?_]
      · exact a1
      · show s_Mod_feed_55 (nI m) g = _
        unfold s_Mod_feed_55
        rw [if_neg (by rw [show (20 : Int32) = nI 20 from rfl, nI_leI (by decide) (by omega)]; omega), hsh, show nI m / 4 = nI (m / 4) from nI_div (b := 4) (by omega) (by decide), ib_nI (by omega) (by decide), e2, e, nI_add, ib_nI (by omega) (by decide), show ix (nI (m / 4)) = m / 4 from nI_clamp (by omega), show ix (nI (k + m)) = k + m from nI_clamp (by omega), e1 _ (by omega), hb, nI_1]
  obtain ⟨h1, a1, a2⟩ := key 20 0 _ (by decide) E0 f5 (by rw [hI_sI_ne (by decide), hI_sI_ne (by decide), hI_sI_ne (by decide), hI_sI_ne (by decide), hI_sI_ne (by decide)]) (fun q => by rw [if_neg (by omega), hI_sI_ne (by decide), hI_sI_ne (by decide), hI_sI_ne (by decide), hI_sI_ne (by decide), hI_sI_ne (by decide)])
  refine ⟨h1, ?_, a2⟩
  unfold s_Mod_feed
  rw [e, show (20 : Int32) = nI 20 from rfl, nI_add, if_pos (by rw [show (400 : Int32) = nI 400 from rfl, nI_leI (by omega) (by decide)]; exact hk)]
  exact a1
theorem Q_feed (n : Nat) (x1 x2 x3 x4 x5 : Int32) (h : Hp) (_ : n < 512) (hi : Inv n h) : ∃ h2, q_feed x1 x2 x3 x4 x5 h = some h2 ∧ Inv (n + 1) h2 := by
  obtain ⟨τ, hi⟩ := hi
  unfold q_feed
  have hi0 := hi
  obtain ⟨sm, im, ⟨k, hk, t1, t2, t3⟩, ss, rw0, cc, rc, dr, rm, wd⟩ := hi0
  by_cases hb : k + 20 ≤ 400
  · obtain ⟨h1, a1, a2, a3, a4, a5⟩ := p_feedC x1 x2 x3 x4 x5 hb t1
    have no1 : ∀ j, j ≠ 45 → j ≠ 46 → sTp j = false := fun j z1 z2 => by
      unfold sTp
      rw [decide_eq_false z1, decide_eq_false z2]
      rfl
    have t2' : hI h1 84 10 = nI k := by rw [(a2.2 84 (by decide)).1]; exact t2
    obtain ⟨h2, b1, b2, b3, b4⟩ := p_feedR x1 x2 x3 x4 x5 hb t2'
    have no2 : ∀ j, j ≠ 84 → j ≠ 90 → j ≠ 91 → (decide (j = 84) || decide (j = 90) || decide (j = 91)) = false := fun j z1 z2 z3 => by
      rw [decide_eq_false z1, decide_eq_false z2, decide_eq_false z3]
      rfl
    rw [a1, Option.bind_some]
    show ∃ h2, ((s_Mod_feed x1 x2 x3 x4 x5 h1).bind fun w => if nI (k + 20) = w.1 then some w.2 else none) = some h2 ∧ _
    rw [b1, Option.bind_some, if_pos rfl]
    refine ⟨h2, rfl, τ, ?_⟩
    have t22 : h2.2.2 = h.2.2 := b2.1.trans a2.1
    have g : ∀ j, j ≠ 45 → j ≠ 46 → j ≠ 84 → j ≠ 90 → j ≠ 91 → hI h2 j = hI h j ∧ hL h2 j = hL h j := fun j z1 z2 z3 z4 z5 => ⟨((b2.2 j (no2 j z3 z4 z5)).1).trans (a2.2 j (no1 j z1 z2)).1, ((b2.2 j (no2 j z3 z4 z5)).2).trans (a2.2 j (no1 j z1 z2)).2⟩
    have E : eqO (fun j => decide (j = 45) || decide (j = 46) || decide (j = 84) || decide (j = 90) || decide (j = 91)) h h2 := ⟨t22, fun j hj => by
      simp only [Bool.or_eq_false_iff, decide_eq_false_iff_not] at hj
      exact g j hj.1.1.1.1 hj.1.1.1.2 hj.1.1.2 hj.1.2 hj.2⟩
    have noE : ∀ j, j ≠ 45 → j ≠ 46 → j ≠ 84 → j ≠ 90 → j ≠ 91 → (fun j => decide (j = 45) || decide (j = 46) || decide (j = 84) || decide (j = 90) || decide (j = 91)) j = false := fun j z1 z2 z3 z4 z5 => by
      show (decide (j = 45) || decide (j = 46) || decide (j = 84) || decide (j = 90) || decide (j = 91)) = false
      rw [decide_eq_false z1, decide_eq_false z2, decide_eq_false z3, decide_eq_false z4, decide_eq_false z5]
      rfl
    have F := Fr_of E (fun j hj => by have : 114 ≤ j := hj; exact noE j (by omega) (by omega) (by omega) (by omega) (by omega))
    have k84 : ∀ q, q ≠ 10 → hI h2 84 q = hI h 84 q := fun q hq => by rw [b3, if_neg hq, (a2.2 84 (by decide)).1]
    have gI : ∀ j, j ≠ 45 → j ≠ 46 → j ≠ 84 → j ≠ 90 → j ≠ 91 → hI h2 j = hI h j := fun j z1 z2 z3 z4 z5 => (g j z1 z2 z3 z4 z5).1
    unfold InvT
    rw [gI 86 (by decide) (by decide) (by decide) (by decide) (by decide)]
    refine ⟨SM_Fr F (by decide) (by decide) sm, IM_Fr F (by decide) (by decide) (by decide) (fun j h1 h2 => noE j (by omega) (by omega) (by omega) (by omega) (by omega)) im, ⟨k + 20, hb, ?_, ?_, fun i hi2 => ?_⟩, ?_, RW_eq t22 rw0, CC_eqC ⟨t22, fun j hj => g j (by rcases hj with hj | hj; omega; have : 114 ≤ j := hj; omega) (by rcases hj with hj | hj; omega; have : 114 ≤ j := hj; omega) (by rcases hj with hj | hj; omega; have : 114 ≤ j := hj; omega) (by rcases hj with hj | hj; omega; have : 114 ≤ j := hj; omega) (by rcases hj with hj | hj; omega; have : 114 ≤ j := hj; omega)⟩ rw0 cc, RC_eq rc (k84 1 (by decide)) (k84 28 (by decide)) (gI 97 (by decide) (by decide) (by decide) (by decide) (by decide)) (gI 99 (by decide) (by decide) (by decide) (by decide) (by decide)), DR_eq (h := h) (by rw [hR_of t22]) (k84 51 (by decide)) (gI 113 (by decide) (by decide) (by decide) (by decide) (by decide)) (fun r hr => by have : 114 ≤ r := (rw0.2.2.1 r hr).1; exact gI r (by omega) (by omega) (by omega) (by omega) (by omega)) dr, RM_eq (h := h) (by rw [hN_of t22]; omega) (by rw [hS_of t22]; omega) rm, WD_eq (gI 89 (by decide) (by decide) (by decide) (by decide) (by decide)) wd⟩
    · rw [(b2.2 45 (by decide)).1]; exact a4
    · rw [b3, if_pos rfl]
    · rw [(b2.2 46 (by decide)).1, a5, b4, (a2.2 90 (by decide)).1]
      by_cases z : k ≤ i ∧ i < k + 20
      · rw [if_pos z, if_pos z]
        exact ⟨byt_n _, rfl⟩
      · rw [if_neg z, if_neg z]
        exact t3 i (by omega)
    · unfold SS at ss ⊢
      rw [k84 0 (by decide), k84 6 (by decide), k84 11 (by decide), gI 0 (by decide) (by decide) (by decide) (by decide) (by decide), gI 83 (by decide) (by decide) (by decide) (by decide) (by decide), gI 85 (by decide) (by decide) (by decide) (by decide) (by decide)]
      exact ss
  · have c : ¬ nI (k + 20) ≤ 400 := by rw [show (400 : Int32) = nI 400 from rfl, nI_leI (by omega) (by decide)]; exact hb
    have e1 : s_Race_feed x1 x2 x3 x4 x5 h = some (-1, h) := by
      unfold s_Race_feed
      rw [t1, show (20 : Int32) = nI 20 from rfl, nI_add, if_neg c]
    have e2 : s_Mod_feed x1 x2 x3 x4 x5 h = some (-1, h) := by
      unfold s_Mod_feed
      rw [t2, show (20 : Int32) = nI 20 from rfl, nI_add, if_neg c]
    rw [e1, Option.bind_some]
    show ∃ h2, ((s_Mod_feed x1 x2 x3 x4 x5 h).bind fun w => if (-1 : Int32) = w.1 then some w.2 else none) = some h2 ∧ _
    rw [e2, Option.bind_some, if_pos rfl]
    exact ⟨h, rfl, τ, InvT_up hi⟩
