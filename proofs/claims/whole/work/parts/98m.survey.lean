/-! ways: the class's survey -/
theorem hL_sL' (h : Hp) (j k : Nat) (v : Int64) (a b : Nat) : hL (sL h j k v) a b = if a = j ∧ b = k then v else hL h a b := by
  by_cases ha : a = j
  · subst ha
    rw [hL_sL]
    by_cases hb : b = k
    · simp [vp_updL, hb]
    · simp [vp_updL, hb]
  · rw [hL_sL_ne ha]
    simp [ha]
/-- a cell's kind -/
def kCl (K : Nat → Int32) (c : Nat) : Nat := ix (K (41 + c))
theorem kCl_e {K : Nat → Int32} (rg : Rg K) {c : Nat} (hc : c < 50) : kCl K c < 6 ∧ K (41 + c) = nI (kCl K c) := by
  obtain ⟨k, h1, h2⟩ := Rg_kind rg hc
  have : kCl K c = k := by unfold kCl; rw [h2]; exact nI_clamp (by omega)
  rw [this]
  exact ⟨h1, h2⟩
def OKd (K : Nat → Int32) (h : Hp) : Prop := ∀ k c, k < 6 → c < 50 → bt (hL h 61 k) c = decide (kCl K c = k)
theorem st_bit {K : Nat → Int32} {v O : Int64} {c k : Nat} (P : Nat → Bool) (k1 : 1 ≤ k) (h1 : bt v c = (decide (1 ≤ kCl K c ∧ kCl K c < k) && P (kCl K c))) (h2 : bt O c = decide (kCl K c = k)) : bt (v ||| (if P k then O else 0)) c = (decide (1 ≤ kCl K c ∧ kCl K c < k + 1) && P (kCl K c)) := by
  rw [bt_or, h1]
  have e : bt (if P k then O else 0) c = (P k && decide (kCl K c = k)) := by
    cases P k
    · exact bt_0 c
    · exact h2
  rw [e]
  by_cases z : kCl K c = k
  · rw [z, decide_eq_false (p := 1 ≤ k ∧ k < k) (by omega), decide_eq_true (p := 1 ≤ k ∧ k < k + 1) (by omega), decide_eq_true (p := k = k) rfl, Bool.and_true]
    simp
  · rw [decide_eq_false z, Bool.and_false, Bool.or_false]
    have : (1 ≤ kCl K c ∧ kCl K c < k) ↔ (1 ≤ kCl K c ∧ kCl K c < k + 1) := by omega
    rw [decide_eq_decide.mpr this]
def p4 (T : TF) (K : Nat → Int32) (b s k : Nat) : Bool := decide (wh T (mk pF K) (td0 T (mk pF K)) (nI k) (10 * s) ≤ K (92 + 2 * b))
def p6 (T : TF) (K : Nat → Int32) (b s k : Nat) : Bool := !decide (K (91 + 2 * b) < szI (fa (mk pF K) (td0 T (mk pF K)) (nI k) (10 * s)))
def p8 (T : TF) (K : Nat → Int32) (b s k : Nat) : Bool := !decide (K (91 + 2 * b) + fa (mk pF K) (td0 T (mk pF K)) (nI k) (10 * s) < mk pF K 36)
def pA (T : TF) (K : Nat → Int32) (b s k : Nat) : Bool := !decide (K (91 + 2 * b) - fa (mk pF K) (td0 T (mk pF K)) (nI k) (10 * s) < mk pF K 36)
/-- what the survey says of step s -/
def SVs (T : TF) (K : Nat → Int32) (b s : Nat) (h : Hp) : Prop := ∀ c, c < 50 → bt (hL h 62 s) c = (decide (1 ≤ kCl K c) && p4 T K b s (kCl K c)) ∧ bt (hL h 63 s) c = (decide (1 ≤ kCl K c) && p6 T K b s (kCl K c)) ∧ bt (hL h 64 s) c = (decide (1 ≤ kCl K c) && p8 T K b s (kCl K c) && decide (¬ c % 10 = 9)) ∧ bt (hL h 65 s) c = (decide (1 ≤ kCl K c) && pA T K b s (kCl K c) && decide (¬ c % 10 = 0))
theorem p_sstep {T : TF} {K : Nat → Int32} {h : Hp} {b s : Nat} (st : StP K h 1) (rg : Rg K) (sw : SWf T K h) (ok : OKd K h) (hs : s < 144) : ∃ h2, s_Ways_surveyStep (nI s) (K (91 + 2 * b)) (K (92 + 2 * b)) h = some h2 ∧ eqO (fun j => decide (62 ≤ j) && decide (j ≤ 65)) h h2 ∧ SVs T K b s h2 ∧ ∀ s2, s2 ≠ s → ∀ j, hL h2 j s2 = hL h j s2 := by
  have t6 : hI h 4 6 = mk pF K 36 := kf_term st 6 (by decide)
  have stp : ∀ (k : Nat) (v4 v6 v8 vA : Int64), k < 6 → s_Ways_surveyStep_15 (nI s) (K (91 + 2 * b)) (K (92 + 2 * b)) v4 v6 v8 vA (nI k) h = some (.inl (nI s, K (91 + 2 * b), K (92 + 2 * b), v4 ||| (if p4 T K b s k then hL h 61 k else 0), v6 ||| (if p6 T K b s k then hL h 61 k else 0), v8 ||| (if p8 T K b s k then hL h 61 k else 0), vA ||| (if pA T K b s k then hL h 61 k else 0), nI (k + 1), h)) := by
    intro k v4 v6 v8 vA hk
    have i0 : nI s * 6 + nI k = nI (6 * s + k) := by rw [show (6 : Int32) = nI 6 from rfl, nI_mul, nI_add, Nat.mul_comm]
    have f := (sw s k hs hk).1
    have w := (sw s k hs hk).2
    have e145 : ∀ w4 w6 w8 s0 s1, s_Ways_surveyStep_145 (nI s) (K (91 + 2 * b)) (K (92 + 2 * b)) w4 w6 w8 (nI k) s0 s1 h = some (.inl (nI s, K (91 + 2 * b), K (92 + 2 * b), w4, w6, w8, s1 ||| s0, nI (k + 1), h)) := fun w4 w6 w8 s0 s1 => by
      unfold s_Ways_surveyStep_145
      rw [nI_1]
    have e117 : ∀ w4 w6 s0 s1, s_Ways_surveyStep_117 (nI s) (K (91 + 2 * b)) (K (92 + 2 * b)) w4 w6 vA (nI k) (fa (mk pF K) (td0 T (mk pF K)) (nI k) (10 * s)) (hL h 61 k) s0 s1 h = some (.inl (nI s, K (91 + 2 * b), K (92 + 2 * b), w4, w6, s1 ||| s0, vA ||| (if pA T K b s k then hL h 61 k else 0), nI (k + 1), h)) := fun w4 w6 s0 s1 => by
      unfold s_Ways_surveyStep_117 pA
      rw [ib_some _ (by decide) (by decide), show ix 6 = 6 by decide, t6]
      by_cases z : K (91 + 2 * b) - fa (mk pF K) (td0 T (mk pF K)) (nI k) (10 * s) < mk pF K 36
      · rw [if_pos z, decide_eq_true z, e145]; rfl
      · rw [if_neg z, decide_eq_false z, e145]; rfl
    have e89 : ∀ w4 s0 s1, s_Ways_surveyStep_89 (nI s) (K (91 + 2 * b)) (K (92 + 2 * b)) w4 v8 vA (nI k) (fa (mk pF K) (td0 T (mk pF K)) (nI k) (10 * s)) (hL h 61 k) s0 s1 h = some (.inl (nI s, K (91 + 2 * b), K (92 + 2 * b), w4, s1 ||| s0, v8 ||| (if p8 T K b s k then hL h 61 k else 0), vA ||| (if pA T K b s k then hL h 61 k else 0), nI (k + 1), h)) := fun w4 s0 s1 => by
      unfold s_Ways_surveyStep_89 p8
      rw [ib_some _ (by decide) (by decide), show ix 6 = 6 by decide, t6]
      by_cases z : K (91 + 2 * b) + fa (mk pF K) (td0 T (mk pF K)) (nI k) (10 * s) < mk pF K 36
      · rw [if_pos z, decide_eq_true z, e117]; rfl
      · rw [if_neg z, decide_eq_false z, e117]; rfl
    have e69 : ∀ s0 s1, s_Ways_surveyStep_69 (nI s) (K (91 + 2 * b)) (K (92 + 2 * b)) v6 v8 vA (nI k) (fa (mk pF K) (td0 T (mk pF K)) (nI k) (10 * s)) (hL h 61 k) s0 s1 h = some (.inl (nI s, K (91 + 2 * b), K (92 + 2 * b), s1 ||| s0, v6 ||| (if p6 T K b s k then hL h 61 k else 0), v8 ||| (if p8 T K b s k then hL h 61 k else 0), vA ||| (if pA T K b s k then hL h 61 k else 0), nI (k + 1), h)) := fun s0 s1 => by
      unfold s_Ways_surveyStep_69 p6
      rw [z_abs_eq]
      by_cases z : K (91 + 2 * b) < szI (fa (mk pF K) (td0 T (mk pF K)) (nI k) (10 * s))
      · rw [if_pos z, decide_eq_true z, e89]; rfl
      · rw [if_neg z, decide_eq_false z, e89]; rfl
    unfold s_Ways_surveyStep_15
    rw [if_neg (by rw [show (6 : Int32) = nI 6 from rfl, nI_leI (by decide) (by omega)]; omega), i0, ib_nI (by omega) (by decide), lt_eq, ib_nI (by omega) (by decide), ib_nI (by omega) (by decide), show ix (nI (6 * s + k)) = 6 * s + k from nI_clamp (by omega), show ix (nI k) = k from nI_clamp (by omega), f, w]
    by_cases z : K (92 + 2 * b) < wh T (mk pF K) (td0 T (mk pF K)) (nI k) (10 * s)
    · have : p4 T K b s k = false := decide_eq_false (Int32.not_le.mpr z)
      rw [if_pos z, e69, this]; rfl
    · have : p4 T K b s k = true := decide_eq_true (Int32.not_lt.mp z)
      rw [if_neg z, e69, this]; rfl
  have loop : ∀ (q k : Nat) (v4 v6 v8 vA : Int64), k + q = 6 → 1 ≤ k → (∀ c, c < 50 → bt v4 c = (decide (1 ≤ kCl K c ∧ kCl K c < k) && p4 T K b s (kCl K c)) ∧ bt v6 c = (decide (1 ≤ kCl K c ∧ kCl K c < k) && p6 T K b s (kCl K c)) ∧ bt v8 c = (decide (1 ≤ kCl K c ∧ kCl K c < k) && p8 T K b s (kCl K c)) ∧ bt vA c = (decide (1 ≤ kCl K c ∧ kCl K c < k) && pA T K b s (kCl K c))) → ∃ h2, lp (fun q : Int32 × Int32 × Int32 × Int64 × Int64 × Int64 × Int64 × Int32 × Hp => s_Ways_surveyStep_15 q.1 q.2.1 q.2.2.1 q.2.2.2.1 q.2.2.2.2.1 q.2.2.2.2.2.1 q.2.2.2.2.2.2.1 q.2.2.2.2.2.2.2.1 q.2.2.2.2.2.2.2.2) (nI s, K (91 + 2 * b), K (92 + 2 * b), v4, v6, v8, vA, nI k, h) = some h2 ∧ eqO (fun j => decide (62 ≤ j) && decide (j ≤ 65)) h h2 ∧ SVs T K b s h2 ∧ ∀ s2, s2 ≠ s → ∀ j, hL h2 j s2 = hL h j s2 := by
    intro q
    induction q with
    | zero =>
      intro k v4 v6 v8 vA hk k1 P
      have hk : k = 6 := by omega
      subst hk
      refine ⟨sL (sL (sL (sL h 62 s v4) 63 s v6) 64 s (v8 &&& (-563500246630913))) 65 s (vA &&& (-1100586419202)), lp_inr ?_, eqO_sL (eqO_sL (eqO_sL (eqO_sL (eqO_refl _ _) (by decide)) (by decide)) (by decide)) (by decide), fun c hc => ?_, fun s2 hs2 j => ?_⟩
      · show s_Ways_surveyStep_15 (nI s) (K (91 + 2 * b)) (K (92 + 2 * b)) v4 v6 v8 vA (nI 6) h = _
        unfold s_Ways_surveyStep_15
        rw [if_pos (show (6 : Int32) ≤ nI 6 by decide), ib_nI hs (by decide), lt_eq, ib_nI hs (by decide), lt_eq, ib_nI hs (by decide), lt_eq, ib_nI hs (by decide), show ix (nI s) = s from nI_clamp (by omega)]
      · obtain ⟨x1, x2, x3, x4⟩ := P c hc
        have k6 := (kCl_e rg hc).1
        have ed : (1 ≤ kCl K c ∧ kCl K c < 6) ↔ 1 ≤ kCl K c := by omega
        rw [decide_eq_decide.mpr ed] at x1 x2 x3 x4
        rw [hL_sL_ne (i := 62) (by decide), hL_sL_ne (i := 62) (by decide), hL_sL_ne (i := 62) (by decide), hL_sL', if_pos ⟨rfl, rfl⟩, hL_sL_ne (i := 63) (by decide), hL_sL_ne (i := 63) (by decide), hL_sL', if_pos ⟨rfl, rfl⟩, hL_sL_ne (i := 64) (by decide), hL_sL', if_pos ⟨rfl, rfl⟩, hL_sL', if_pos ⟨rfl, rfl⟩, bt_and, bt_and, bt_on ⟨c, hc⟩, bt_back ⟨c, hc⟩, x1, x2, x3, x4]
        exact ⟨rfl, rfl, rfl, rfl⟩
      · rw [hL_sL', if_neg (fun z => hs2 z.2), hL_sL', if_neg (fun z => hs2 z.2), hL_sL', if_neg (fun z => hs2 z.2), hL_sL', if_neg (fun z => hs2 z.2)]
    | succ q ih =>
      intro k v4 v6 v8 vA hk k1 P
      rw [lp_inl (stp k v4 v6 v8 vA (by omega))]
      refine ih (k + 1) _ _ _ _ (by omega) (by omega) (fun c hc => ?_)
      obtain ⟨x1, x2, x3, x4⟩ := P c hc
      have o := ok k c (by omega) hc
      exact ⟨st_bit (p4 T K b s) k1 x1 o, st_bit (p6 T K b s) k1 x2 o, st_bit (p8 T K b s) k1 x3 o, st_bit (pA T K b s) k1 x4 o⟩
  refine loop 5 1 0 0 0 0 (by omega) (by omega) (fun c hc => ?_)
  rw [decide_eq_false (p := 1 ≤ kCl K c ∧ kCl K c < 1) (by omega), bt_0]
  exact ⟨rfl, rfl, rfl, rfl⟩
/-- the class's context of ways -/
def WX (τ : Nat → TF) (K : Nat → Int32) (b : Nat) (h : Hp) : Prop := TX τ K h ∧ SWf (tin τ K) K h ∧ ∀ s, s < 144 → SVs (tin τ K) K b s h
theorem p_survey {τ : Nat → TF} {K : Nat → Int32} {h : Hp} {b : Nat} (hb : b < 6) (X : TX τ K h) : ∃ h2, s_Ways_survey (nI b) h = some h2 ∧ eqO sWy h h2 ∧ WX τ K b h2 := by
  obtain ⟨u, u1, u2, u3, u4⟩ := p_stepsC X
  have rg := X.1.1.2.1
  have c58 : ∀ g, eqO (fun j => decide (61 ≤ j) && decide (j ≤ 65)) u g → TX τ K g ∧ SWf (tin τ K) K g := fun g E => by
    have c := u3.1.1.2.2.2.1.2.2.2.2.2.2.1
    have f : ∀ j, j < 61 → hI g j = hI u j := fun j hj => (E.2 j (by show (decide (61 ≤ j) && decide (j ≤ 65)) = false; rw [decide_eq_false (p := 61 ≤ j) (by omega)]; rfl)).1
    refine ⟨TX_wy u3 (eqO_mono E (fun j hj => ?_)) ?_, ?_⟩
    · have := sWy_of hj
      rcases Nat.lt_or_ge j 61 with z | z
      · show (decide (61 ≤ j) && decide (j ≤ 65)) = false
        rw [decide_eq_false (p := 61 ≤ j) (by omega)]; rfl
      · show (decide (61 ≤ j) && decide (j ≤ 65)) = false
        rw [decide_eq_false (p := j ≤ 65) (by omega), Bool.and_false]
    · unfold C58; rw [f 58 (by decide), f 59 (by decide), f 60 (by decide)]; exact c
    · unfold SWf; rw [f 59 (by decide), f 60 (by decide)]; exact u4
  have m61 : ∀ g, eqO (fun j => decide (61 ≤ j) && decide (j ≤ 65)) u g → eqO sWy h g := fun g E => eqO_trans u2 (eqO_mono E (fun j hj => by
    have := sWy_of hj
    rcases Nat.lt_or_ge j 61 with z | z
    · show (decide (61 ≤ j) && decide (j ≤ 65)) = false
      rw [decide_eq_false (p := 61 ≤ j) (by omega)]; rfl
    · show (decide (61 ≤ j) && decide (j ≤ 65)) = false
      rw [decide_eq_false (p := j ≤ 65) (by omega), Bool.and_false]))
  have l2 : ∀ (q s : Nat) (g : Hp), s + q = 144 → eqO (fun j => decide (61 ≤ j) && decide (j ≤ 65)) u g → OKd K g → (∀ s2, s2 < s → SVs (tin τ K) K b s2 g) → ∃ h2, lp (fun q : Int32 × Int32 × Hp => s_Ways_survey_48 q.1 q.2.1 q.2.2) (nI b, nI s, g) = some h2 ∧ eqO sWy h h2 ∧ WX τ K b h2 := by
    intro q
    induction q with
    | zero =>
      intro s g hs E o P
      have hs : s = 144 := by omega
      subst hs
      refine ⟨g, lp_inr ?_, m61 g E, (c58 g E).1, (c58 g E).2, P⟩
      show s_Ways_survey_48 (nI b) (nI 144) g = _
      unfold s_Ways_survey_48
      rw [if_pos (show (144 : Int32) ≤ nI 144 by decide)]
    | succ q ih =>
      intro s g hs E o P
      obtain ⟨Xg, sw⟩ := c58 g E
      have e7 : hI g 7 b = K (91 + 2 * b) := StP_at Xg.1.1.1 (by omega) (pl_pace b hb)
      have e8 : hI g 8 b = K (92 + 2 * b) := StP_at Xg.1.1.1 (by omega) (pl_bear b hb)
      obtain ⟨g2, a1, a2, a3, a4⟩ := p_sstep (b := b) Xg.1.1.1 rg sw o (s := s) (by omega)
      have stp : s_Ways_survey_48 (nI b) (nI s) g = some (.inl (nI b, nI (s + 1), g2)) := by
        unfold s_Ways_survey_48
        rw [if_neg (by rw [show (144 : Int32) = nI 144 from rfl, nI_leI (by decide) (by omega)]; omega), ib_nI hb (by decide), ib_nI hb (by decide), show ix (nI b) = b from nI_clamp (by omega), e7, e8, a1, Option.bind_some, nI_1]
      rw [lp_inl stp]
      refine ih (s + 1) g2 (by omega) (eqO_trans E (eqO_mono a2 (fun j hj => ?_))) (fun k c hk hc => ?_) (fun s2 h2 => ?_)
      · have hj2 : (decide (61 ≤ j) && decide (j ≤ 65)) = false := hj
        simp only [Bool.and_eq_false_iff, decide_eq_false_iff_not] at hj2
        show (decide (62 ≤ j) && decide (j ≤ 65)) = false
        simp only [Bool.and_eq_false_iff, decide_eq_false_iff_not]
        omega
      · rw [(a2.2 61 (by decide)).2]; exact o k c hk hc
      · by_cases z : s2 = s
        · rw [z]; exact a3
        · have := P s2 (by omega)
          unfold SVs at this ⊢
          rw [a4 s2 z, a4 s2 z, a4 s2 z, a4 s2 z]
          exact this
  have l1 : ∀ (q c : Nat) (g : Hp), c + q = 50 → eqO (fun j => decide (61 ≤ j) && decide (j ≤ 65)) u g → (∀ k c2, k < 6 → c2 < 50 → bt (hL g 61 k) c2 = (decide (c2 < c) && decide (kCl K c2 = k))) → ∃ h2, lp (fun q : Int32 × Int32 × Hp => s_Ways_survey_14 q.1 q.2.1 q.2.2) (nI b, nI c, g) = some h2 ∧ eqO sWy h h2 ∧ WX τ K b h2 := by
    intro q
    induction q with
    | zero =>
      intro c g hc E P
      have hc : c = 50 := by omega
      subst hc
      obtain ⟨h2, a1, a2, a3⟩ := l2 144 0 g (by omega) E (fun k c2 hk hc2 => by rw [P k c2 hk hc2, decide_eq_true hc2, Bool.true_and]) (fun s2 hs => absurd hs (by omega))
      refine ⟨h2, lp_inr ?_, a2, a3⟩
      show s_Ways_survey_14 (nI b) (nI 50) g = _
      unfold s_Ways_survey_14
      have a1' : lp (fun q : Int32 × Int32 × Hp => s_Ways_survey_48 q.1 q.2.1 q.2.2) (nI b, 0, g) = some h2 := a1
      rw [if_pos (show (50 : Int32) ≤ nI 50 by decide), a1']
      rfl
    | succ q ih =>
      intro c g hc E P
      have Xg := (c58 g E).1
      obtain ⟨k6, ek⟩ := kCl_e rg (c := c) (by omega)
      have e5 : hI g 5 c = nI (kCl K c) := (StP_at Xg.1.1.1 (by omega) (pl_kind c (by omega))).trans ek
      have stp : s_Ways_survey_14 (nI b) (nI c) g = some (.inl (nI b, nI (c + 1), sL g 61 (kCl K c) (hL g 61 (kCl K c) ||| z_lshl 1 (nI c)))) := by
        unfold s_Ways_survey_14
        rw [if_neg (by rw [show (50 : Int32) = nI 50 from rfl, nI_leI (by decide) (by omega)]; omega), ib_nI (by omega) (by decide), show ix (nI c) = c from nI_clamp (by omega), e5, ib_nI k6 (by decide), ib_nI k6 (by decide), show ix (nI (kCl K c)) = kCl K c from nI_clamp (by omega), nI_1]
      rw [lp_inl stp]
      refine ih (c + 1) _ (by omega) (eqO_sL E (by decide)) (fun k c2 hk hc2 => ?_)
      rw [hL_sL']
      by_cases z : k = kCl K c
      · rw [if_pos ⟨rfl, z⟩, bt_or, ← z, P k c2 hk hc2, bt_one (by omega) hc2]
        by_cases y : c = c2
        · rw [y] at z ⊢
          rw [decide_eq_false (p := c2 < c2) (by omega), decide_eq_true (p := c2 = c2) rfl, decide_eq_true (p := c2 < c2 + 1) (by omega), decide_eq_true (p := kCl K c2 = k) z.symm]
          rfl
        · rw [decide_eq_false y, Bool.or_false, decide_eq_decide.mpr (show c2 < c ↔ c2 < c + 1 by omega)]
      · rw [if_neg (fun y => z y.2), P k c2 hk hc2]
        by_cases y : c2 = c
        · rw [y, decide_eq_false (p := kCl K c = k) (fun v => z v.symm), Bool.and_false, Bool.and_false]
        · rw [decide_eq_decide.mpr (show c2 < c ↔ c2 < c + 1 by omega)]
  unfold s_Ways_survey
  rw [u1, Option.bind_some, p_fillL (n := 6) (nd_of (by decide) rfl) (by decide), Option.bind_some]
  refine l1 50 0 _ (by omega) (eqO_wL (eqO_refl _ _) (by decide)) (fun k c2 hk hc2 => ?_)
  rw [decide_eq_false (p := c2 < 0) (by omega), hL_wL, if_pos hk, bt_0]
  rfl
