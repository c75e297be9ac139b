/-! flow and white by kind, on both sides; what the reference looks at -/
theorem kf_lead {K : Nat → Int32} (rg : Rg K) : ∃ l, l ≤ 60 ∧ mk pF K 35 = nI l := by
  rw [kf_eq (by decide)]
  exact Rg_nat rg (j := 30 + 5) (b := 60) (by decide) (rj_term 5 (by decide)) (by decide)
theorem p_flowAt {τ : Nat → TF} {K row : Nat → Int32} {h : Hp} (X : RX τ K h) (hrow : ∀ i, i < 1440 → hI h 97 i = row i) {m : Nat} (hm : m < 1440) (k : Int32) : s_Mod_flowAt k (nI m) h = some (fa (mk pF K) row k m) := by
  have t5 : s_Mod_term 5 h = some (mk pF K 35) := p_termK X (k := 5) (by decide)
  obtain ⟨l, hl, el⟩ := kf_lead X.2.1
  unfold s_Mod_flowAt fa
  rw [ib_nI hm (by decide), show ix (nI m) = m from nI_clamp (by omega), hrow m hm]
  by_cases h0 : k = 0
  · rw [if_pos h0, if_pos h0]
  rw [if_neg h0, if_neg h0]
  by_cases h1 : k = 1
  · subst h1
    rw [if_pos rfl, if_neg (by decide), if_neg (by decide), if_neg (by decide)]
    rfl
  rw [if_neg h1]
  by_cases h2 : k = 2
  · rw [if_pos h2, if_pos h2, t5, Option.bind_some, Option.bind_some, el, nI_add, show ix (nI l) = l from nI_clamp (by omega)]
    by_cases hb : m + l < 1440
    · rw [if_neg (by rw [show (1440 : Int32) = nI 1440 from rfl, nI_leI (by decide) (by omega)]; omega), if_pos hb]
      unfold s_Mod_flowAt_76
      rw [ib_nI hb (by decide), show ix (nI (m + l)) = m + l from nI_clamp (by omega), hrow _ hb]
    · rw [if_pos (by rw [show (1440 : Int32) = nI 1440 from rfl, nI_leI (by decide) (by omega)]; omega), if_neg hb]
      unfold s_Mod_flowAt_76
      rw [ib_some _ (by decide) (by decide), show ix 1439 = 1439 by decide, hrow _ (by decide)]
  rw [if_neg h2, if_neg h2]
  by_cases h3 : k = 3
  · rw [if_pos h3, if_pos h3]
  rw [if_neg h3, if_neg h3]
  by_cases h4 : k = 4
  · rw [if_pos h4, if_pos h4]
  rw [if_neg h4, if_neg h4]
  rfl
theorem p_flowOf {K row : Nat → Int32} {h : Hp} (st : StP K h 1) (rg : Rg K) (hrow : ∀ i, i < 1440 → hI h 57 i = row i) {m : Nat} (hm : m < 1440) (k : Int32) : s_Water_flowOf k (nI m) h = some (fa (mk pF K) row k m) := by
  have t5 : hI h 4 5 = mk pF K 35 := kf_term st 5 (by decide)
  obtain ⟨l, hl, el⟩ := kf_lead rg
  have e84 : s_Water_flowOf_84 (nI m) h = some (row m) := by
    unfold s_Water_flowOf_84
    rw [ib_nI hm (by decide), show ix (nI m) = m from nI_clamp (by omega), hrow m hm]
  unfold s_Water_flowOf fa
  rw [e84]
  by_cases h0 : k = 0
  · rw [if_pos h0, if_pos h0]
  rw [if_neg h0, if_neg h0]
  by_cases h1 : k = 1
  · subst h1
    rw [if_pos rfl, if_neg (by decide), if_neg (by decide), if_neg (by decide)]
  rw [if_neg h1]
  by_cases h2 : k = 2
  · rw [if_pos h2, if_pos h2, ib_some _ (by decide) (by decide), show ix 5 = 5 by decide, t5, el, nI_add, show ix (nI l) = l from nI_clamp (by omega)]
    unfold z_min
    by_cases hb : m + l < 1440
    · rw [if_neg (by rw [show (1439 : Int32) = nI 1439 from rfl, nI_ltI (by decide) (by omega)]; omega), if_pos hb, ib_nI hb (by decide), show ix (nI (m + l)) = m + l from nI_clamp (by omega), hrow _ hb]
    · rw [if_pos (by rw [show (1439 : Int32) = nI 1439 from rfl, nI_ltI (by decide) (by omega)]; omega), if_neg hb, ib_some _ (by decide) (by decide), show ix 1439 = 1439 by decide, hrow _ (by decide)]
  rw [if_neg h2, if_neg h2]
  by_cases h3 : k = 3
  · rw [if_pos h3, if_pos h3, ib_nI hm (by decide), show ix (nI m) = m from nI_clamp (by omega), hrow m hm]
  rw [if_neg h3, if_neg h3]
  by_cases h4 : k = 4
  · rw [if_pos h4, if_pos h4, ib_nI hm (by decide), show ix (nI m) = m from nI_clamp (by omega), hrow m hm]
  rw [if_neg h4, if_neg h4]
theorem p_white110C {K : Nat → Int32} {h : Hp} (k f w : Int32) (hw : w = mk pF K 39) : s_Water_whiteOf_110 k f w h = some (whP (mk pF K) k f, h) := by
  subst hw
  unfold s_Water_whiteOf_110 s_Water_whiteOf_143 s_Water_whiteOf_152 whP
  by_cases h5 : k = 5
  · rw [if_pos h5, if_pos h5, p_nearest, Option.bind_some]
  rw [if_neg h5, if_neg h5]
  by_cases h2 : k = 2
  · rw [if_pos h2, if_pos (Or.inl h2), p_nearest, Option.bind_some]
  rw [if_neg h2]
  by_cases h3 : k = 3
  · rw [if_pos h3, if_pos (Or.inr h3), p_nearest, Option.bind_some]
  rw [if_neg h3, if_neg (by rintro (z | z); exact h2 z; exact h3 z), p_nearest, Option.bind_some]
theorem p_whiteC {τ : Nat → TF} {K row : Nat → Int32} {h : Hp} (X : FX τ K h) (hrow : ∀ i, i < 1440 → hI h 57 i = row i) {m : Nat} (hm : m < 1440) (k : Int32) : ∃ h', s_Water_whiteOf k (nI m) h = some (wh (tin τ K) (mk pF K) row k m, h') ∧ eqO sGn h h' := by
  obtain ⟨st, rg, lw, td_⟩ := X
  have t9 : hI h 4 9 = mk pF K 39 := kf_term st 9 (by decide)
  have t10 : hI h 4 10 = mk pF K 40 := kf_term st 10 (by decide)
  have l0 : s_Water_levelToday 0 (nI m) h = some (Lv (mk pF K) 0 (nI m) (mk pF K 39) (mk pF K 40)) := p_levelToday td_ (kf_sea st) (kf_term st) (e := 0) (by decide) hm
  have l1 : s_Water_levelToday 1 (nI m) h = some (Lv (mk pF K) 1 (nI m) (mk pF K 39) (mk pF K 40)) := p_levelToday td_ (kf_sea st) (kf_term st) (e := 1) (by decide) hm
  unfold s_Water_whiteOf wh
  by_cases h0 : k = 0
  · rw [if_pos h0, if_pos h0]
    exact ⟨h, rfl, eqO_refl _ _⟩
  rw [if_neg h0, if_neg h0, p_flowOf st rg hrow hm, Option.bind_some, ib_some _ (by decide) (by decide), ib_some _ (by decide) (by decide), show ix 9 = 9 by decide, show ix 10 = 10 by decide, t9, t10]
  rcases p_tell st rg lw (q := 1) (by decide) (flA (mk pF K) (nI m) (mk pF K 39) (mk pF K 40)) (fa (mk pF K) row k m) (nI m) (mk pF K 39) (mk pF K 40) k 0 with ⟨e1, e2⟩ | ⟨r, h', e1, e2, e3, e4⟩
  · rw [e1, Option.bind_some, nq_none, e2]
    exact ⟨h, p_white110C k _ _ rfl, eqO_refl _ _⟩
  · rw [e1, Option.bind_some, nq_some, l0, Option.bind_some, l1, Option.bind_some, p_hear, Option.bind_some]
    rw [show nI 1 = 1 from rfl] at e2
    unfold flA at e2 e3 ⊢
    rw [e2, Option.bind_some]
    refine ⟨h', ?_, e4⟩
    cases hT : tin τ K 1 (Lv (mk pF K) 0 (nI m) (mk pF K 39) (mk pF K 40) - Lv (mk pF K) 1 (nI m) (mk pF K 39) (mk pF K 40)) (fa (mk pF K) row k m) (nI m) (mk pF K 39) (mk pF K 40) k 0 with
    | none =>
      have e0 : (if (none : Option Int32).isSome = true then (1 : Int32) else 0) = 0 := rfl
      rw [e0]
      show (if (0 : Int32) = 0 then _ else _) = _
      rw [if_pos (show (0 : Int32) = 0 from rfl)]
      exact p_white110C k _ _ rfl
    | some x =>
      have e0 : (if (some x).isSome = true then (1 : Int32) else 0) = 1 := rfl
      rw [e0]
      show (if (1 : Int32) = 0 then _ else _) = _
      rw [if_neg (show ¬ (1 : Int32) = 0 by decide)]
      show ((s_Race_nearest (hI h' 51 2) 0 99 h').bind fun u8 => some (u8, h')) = _
      rw [e3 x hT, p_nearest, Option.bind_some]
theorem p_fall0 {τ : Nat → TF} {K : Nat → Int32} {h : Hp} (X : RX τ K h) {m : Nat} (hm : m < 1440) : s_Mod_fallOf0 (nI m) h = some (flA (mk pF K) (nI m) (mk pF K 39) (mk pF K 40)) := by
  have lvl : ∀ e, e ≤ 1 → s_Mod_level (nI e) (nI m) h = some (Lv (mk pF K) e (nI m) (mk pF K 39) (mk pF K 40)) := fun e he => by
    rw [R_level _ _ h (by rw [X.1]; exact Rg_per0 X.2.1), X.1]
    unfold lvA
    have w1 : wi (nI e) 0 1 = 1 := wi_nI (b := 1) he (by decide)
    have w2 : wi (nI m) 0 1439 = 1 := wi_nI (b := 1439) (by omega) (by decide)
    rw [w1, w2, if_neg (by decide), if_neg (by decide), show ix (nI e) = e from nI_clamp (by omega), kf_eq (by decide), kf_eq (by decide), Lv_congr (fun j hj => kf_eq (by omega)) he]
  have l0 : s_Mod_level 0 (nI m) h = some (Lv (mk pF K) 0 (nI m) (mk pF K 39) (mk pF K 40)) := lvl 0 (by decide)
  have l1 : s_Mod_level 1 (nI m) h = some (Lv (mk pF K) 1 (nI m) (mk pF K 39) (mk pF K 40)) := lvl 1 (by decide)
  unfold s_Mod_fallOf0
  rw [l0, Option.bind_some, l1, Option.bind_some]
  rfl
theorem p_whiteR {τ : Nat → TF} {K row : Nat → Int32} {h : Hp} (X : RX τ K h) (hrow : ∀ i, i < 1440 → hI h 97 i = row i) {m : Nat} (hm : m < 1440) (k : Int32) : ∃ h', s_Mod_whiteAt k (nI m) h = some (wh (tin τ K) (mk pF K) row k m, h') ∧ eqO sGR h h' ∧ m84 asF h h' := by
  have t9 : s_Mod_term 9 h = some (mk pF K 39) := p_termK X (k := 9) (by decide)
  have t10 : s_Mod_term 10 h = some (mk pF K 40) := p_termK X (k := 10) (by decide)
  unfold s_Mod_whiteAt wh
  by_cases h0 : k = 0
  · rw [if_pos h0, if_pos h0]
    exact ⟨h, rfl, eqO_refl _ _, m84_refl _ _⟩
  rw [if_neg h0, if_neg h0, p_flowAt X hrow hm, Option.bind_some, p_fall0 X hm, Option.bind_some, t9, Option.bind_some, t10, Option.bind_some, p_asksOf, Option.bind_some]
  obtain ⟨h', z1, z2, z3, z4, z5⟩ := p_tellR X (q := 1) (by decide) (flA (mk pF K) (nI m) (mk pF K 39) (mk pF K 40)) (fa (mk pF K) row k m) (nI m) (mk pF K 39) (mk pF K 40) k 0
  rw [show nI (1 + 1) = 2 from rfl] at z1
  rw [z1, Option.bind_some, z2]
  have X' : RX τ K h' := RX_eq X (z4.2 86 (by decide)).1
  have t9' : s_Mod_term 9 h' = some (mk pF K 39) := p_termK X' (k := 9) (by decide)
  refine ⟨h', ?_, z4, z5⟩
  cases hT : tin τ K 1 (flA (mk pF K) (nI m) (mk pF K 39) (mk pF K 40)) (fa (mk pF K) row k m) (nI m) (mk pF K 39) (mk pF K 40) k 0 with
  | none =>
    have e0 : (if (none : Option Int32).isSome = true then (1 : Int32) else 0) = 0 := rfl
    rw [e0, if_pos (show (0 : Int32) = 0 from rfl), t9', Option.bind_some]
    unfold s_Mod_whiteAt_99 s_Mod_whiteAt_110 whP
    by_cases h5 : k = 5
    · rw [if_pos h5, if_pos h5, p_near, Option.bind_some]
    rw [if_neg h5, if_neg h5]
    by_cases h2 : k = 2
    · rw [if_pos h2, if_pos (Or.inl h2), p_near, Option.bind_some]
    rw [if_neg h2]
    by_cases h3 : k = 3
    · rw [if_pos h3, if_pos (Or.inr h3), p_near, Option.bind_some]
    rw [if_neg h3, if_neg (by rintro (z | z); exact h2 z; exact h3 z), p_near, Option.bind_some]
  | some x =>
    have e0 : (if (some x).isSome = true then (1 : Int32) else 0) = 1 := rfl
    rw [e0, if_neg (show ¬ (1 : Int32) = 0 by decide), z3 x hT, p_near, Option.bind_some]
theorem clp_n {v : Int32} : ∃ c, c < 100 ∧ clp v 0 99 = nI c := by
  unfold clp
  by_cases h1 : v < 0
  · rw [if_pos h1]; exact ⟨0, by decide, rfl⟩
  rw [if_neg h1]
  by_cases h2 : 99 < v
  · rw [if_pos h2]; exact ⟨99, by decide, rfl⟩
  rw [if_neg h2]
  obtain ⟨c, hc, e⟩ := nI_of h1
  refine ⟨c, ?_, e⟩
  rw [e, Int32.not_lt] at h2
  have := (nI_leI (b := 99) hc (by decide)).mp h2
  omega
theorem wh_n (T : TF) (K row : Nat → Int32) (k : Int32) (m : Nat) : ∃ c, c < 100 ∧ wh T K row k m = nI c := by
  unfold wh
  by_cases h0 : k = 0
  · rw [if_pos h0]; exact ⟨0, by decide, rfl⟩
  rw [if_neg h0]
  split
  · exact clp_n
  · exact clp_n
theorem nb_n : ∀ c, c < 100 → z_nb (z_i2b (nI c)) = nI c := by decide +kernel
theorem p_windsR (v : Int32) (h : Hp) : ∃ h1, s_Mod_winds v h = some h1 ∧ eqO (fun j => decide (j = 96)) h h1 ∧ ∀ i, i < 24 → hI h1 96 i = v := by
  have key : ∀ (n m : Nat) (h0 : Hp), m + n = 24 → eqO (fun j => decide (j = 96)) h h0 → (∀ i, i < m → hI h0 96 i = v) → ∃ h1, lp (fun q : Int32 × Int32 × Hp => s_Mod_winds_2 q.1 q.2.1 q.2.2) (v, nI m, h0) = some h1 ∧ eqO (fun j => decide (j = 96)) h h1 ∧ ∀ i, i < 24 → hI h1 96 i = v := by
    intro n
    induction n with
    | zero =>
      intro m h0 hm E hv
      have hm : m = 24 := by omega
      subst hm
      refine ⟨h0, lp_inr ?_, E, hv⟩
      show s_Mod_winds_2 v (nI 24) h0 = _
      unfold s_Mod_winds_2
      rw [if_pos (show (24 : Int32) ≤ nI 24 by decide)]
    | succ n ih =>
      intro m h0 hm E hv
      obtain ⟨h1, e1, e2, e3⟩ := ih (m + 1) (sI h0 96 m v) (by omega) (eqO_sI E (by decide)) (fun i hi => by
        rw [hI_sI']
        by_cases him : i = m
        · rw [if_pos ⟨rfl, him⟩]
        · rw [if_neg (fun z => him z.2)]; exact hv i (by omega))
      refine ⟨h1, ?_, e2, e3⟩
      rw [lp_inl (s' := (v, nI (m + 1), sI h0 96 m v)) ?_]
      · exact e1
      · show s_Mod_winds_2 v (nI m) h0 = _
        unfold s_Mod_winds_2
        rw [if_neg (by rw [show (24 : Int32) = nI 24 from rfl, nI_leI (by decide) (by omega)]; omega), ib_nI (by omega) (by decide), show ix (nI m) = m from nI_clamp (by omega), nI_1]
  exact key 24 0 h (by decide) (eqO_refl _ _) (fun i hi => absurd hi (by omega))
def sWh (j : Nat) : Bool := decide (j = 84) || decide (j = 95) || decide (j = 99)
theorem sWh_of {j : Nat} (h : sWh j = false) : j ≠ 84 ∧ j ≠ 95 ∧ j ≠ 99 := by
  unfold sWh at h
  simp only [Bool.or_eq_false_iff, decide_eq_false_iff_not] at h
  exact ⟨h.1.1, h.1.2, h.2⟩
theorem p_whites {τ : Nat → TF} {K row : Nat → Int32} {h : Hp} (X : RX τ K h) (hrow : ∀ i, i < 1440 → hI h 97 i = row i) : ∃ h1, s_Mod_whites h = some h1 ∧ eqO sWh h h1 ∧ m84 asF h h1 ∧ ∀ k m, k < 6 → m < 1440 → hI h1 99 (1440 * k + m) = wh (tin τ K) (mk pF K) row (nI k) m := by
  have inner : ∀ (n m k : Nat) (h0 : Hp), k < 6 → m + n = 1440 → eqO sWh h h0 → m84 asF h h0 → (∀ k' m', m' < 1440 → 1440 * k' + m' < 1440 * k + m → hI h0 99 (1440 * k' + m') = wh (tin τ K) (mk pF K) row (nI k') m') → ∃ h1, lp (fun q : Int32 × Int32 × Hp => s_Mod_whites_10 q.1 q.2.1 q.2.2) (nI k, nI m, h0) = some (.inl (nI (k + 1), h1)) ∧ eqO sWh h h1 ∧ m84 asF h h1 ∧ ∀ k' m', m' < 1440 → 1440 * k' + m' < 1440 * (k + 1) → hI h1 99 (1440 * k' + m') = wh (tin τ K) (mk pF K) row (nI k') m' := by
    intro n
    induction n with
    | zero =>
      intro m k h0 hk hm E M hv
      have hm : m = 1440 := by omega
      subst hm
      refine ⟨h0, lp_inr ?_, E, M, fun k' m' h1 h2 => hv k' m' h1 (by omega)⟩
      show s_Mod_whites_10 (nI k) (nI 1440) h0 = _
      unfold s_Mod_whites_10
      rw [if_pos (show (1440 : Int32) ≤ nI 1440 by decide), nI_1]
    | succ n ih =>
      intro m k h0 hk hm E M hv
      have X0 : RX τ K h0 := RX_eq X (E.2 86 (by decide)).1
      obtain ⟨h2, g1, g2, g3⟩ := p_whiteR (row := row) X0 (fun i hi => by rw [(E.2 97 (by decide)).1]; exact hrow i hi) (m := m) (by omega) (nI k)
      obtain ⟨c, hc, ec⟩ := wh_n (tin τ K) (mk pF K) row (nI k) m
      have E2 : eqO sWh h h2 := eqO_trans E (eqO_mono g2 (fun j hj => by
        obtain ⟨a, b, c⟩ := sWh_of hj
        unfold sGR
        rw [decide_eq_false a, decide_eq_false b]
        rfl))
      have e99 : hI h2 99 = hI h0 99 := (g2.2 99 (by decide)).1
      obtain ⟨h1, e1, e2, e3, e4⟩ := ih (m + 1) k (sI h2 99 (1440 * k + m) (wh (tin τ K) (mk pF K) row (nI k) m)) hk (by omega) (eqO_sI E2 (by decide)) (m84_sI (m84_trans M g3) (Or.inl (by decide))) (fun k' m' h1 h2 => by
        rw [hI_sI']
        by_cases him : 1440 * k' + m' = 1440 * k + m
        · rw [if_pos ⟨rfl, him⟩]
          have : k' = k ∧ m' = m := by omega
          rw [this.1, this.2]
        · rw [if_neg (fun z => him z.2), e99]; exact hv k' m' h1 (by omega))
      refine ⟨h1, ?_, e2, e3, e4⟩
      rw [lp_inl (s' := (nI k, nI (m + 1), sI h2 99 (1440 * k + m) (wh (tin τ K) (mk pF K) row (nI k) m))) ?_]
      · exact e1
      · show s_Mod_whites_10 (nI k) (nI m) h0 = _
        unfold s_Mod_whites_10
        rw [if_neg (by rw [show (1440 : Int32) = nI 1440 from rfl, nI_leI (by decide) (by omega)]; omega), g1, Option.bind_some, show (1440 : Int32) = nI 1440 from rfl, nI_mul, nI_add, ib_nI (by omega) (by decide), show ix (nI (1440 * k + m)) = 1440 * k + m from nI_clamp (by omega), nI_1]
        show some (Sum.inl (nI k, nI (m + 1), sI h2 99 (1440 * k + m) (z_nb (z_i2b (wh (tin τ K) (mk pF K) row (nI k) m))))) = _
        rw [ec, nb_n c hc]
  have outer : ∀ (n k : Nat) (h0 : Hp), k + n = 6 → eqO sWh h h0 → m84 asF h h0 → (∀ k' m', m' < 1440 → 1440 * k' + m' < 1440 * k → hI h0 99 (1440 * k' + m') = wh (tin τ K) (mk pF K) row (nI k') m') → ∃ h1, lp (fun q : Int32 × Hp => s_Mod_whites_2 q.1 q.2) (nI k, h0) = some h1 ∧ eqO sWh h h1 ∧ m84 asF h h1 ∧ ∀ k' m', m' < 1440 → 1440 * k' + m' < 1440 * 6 → hI h1 99 (1440 * k' + m') = wh (tin τ K) (mk pF K) row (nI k') m' := by
    intro n
    induction n with
    | zero =>
      intro k h0 hk E M hv
      have hk : k = 6 := by omega
      subst hk
      refine ⟨h0, lp_inr ?_, E, M, hv⟩
      show s_Mod_whites_2 (nI 6) h0 = _
      unfold s_Mod_whites_2
      rw [if_pos (show (6 : Int32) ≤ nI 6 by decide)]
    | succ n ih =>
      intro k h0 hk E M hv
      obtain ⟨h1, a1, a2, a3, a4⟩ := inner 1440 0 k h0 (by omega) (by decide) E M (fun k' m' h1 h2 => hv k' m' h1 (by omega))
      obtain ⟨h2, b1, b2, b3, b4⟩ := ih (k + 1) h1 (by omega) a2 a3 a4
      refine ⟨h2, ?_, b2, b3, b4⟩
      rw [lp_inl (s' := (nI (k + 1), h1)) ?_]
      · exact b1
      · show s_Mod_whites_2 (nI k) h0 = _
        unfold s_Mod_whites_2
        rw [if_neg (by rw [show (6 : Int32) = nI 6 from rfl, nI_leI (by decide) (by omega)]; omega)]
        exact a1
  obtain ⟨h1, e1, e2, e3, e4⟩ := outer 6 0 h (by decide) (eqO_refl _ _) (m84_refl _ _) (fun k' m' _ h2 => absurd h2 (by omega))
  exact ⟨h1, e1, e2, e3, fun k m hk hm => e4 k m hm (by omega)⟩
