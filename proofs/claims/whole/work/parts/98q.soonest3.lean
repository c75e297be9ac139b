/-! ways: soonest -/
def f0B (T : TF) (K : Nat → Int32) (b s0 a s d : Nat) : Bool := decide (s = s0) && (decide (d = a) && canB T K b a (10 * s0))
theorem p_so14 {τ : Nat → TF} {K : Nat → Int32} {b s0 a t s : Nat} {h : Hp} (X : LX τ K h) (hb : b < 6) (ha : a < 50) (ht : t < 50) (hs : s0 ≤ s) (hs2 : s < 144) : ∀ (q c : Nat) (g : Hp), c + q = 50 → eqO s100 h g → RCm (tin τ K) K b s0 a s g → (∀ d, d < c → hI g 100 (50 * s + d) = b01 (f0B (tin τ K) K b s0 a s d)) → ∃ r, lp (fun q : Int32 × Int32 × Int32 × Int32 × Int32 × Int32 × Hp => s_Mod_soonestOf_14 q.1 q.2.1 q.2.2.1 q.2.2.2.1 q.2.2.2.2.1 q.2.2.2.2.2.1 q.2.2.2.2.2.2) (nI b, nI s0, nI a, nI t, nI s, nI c, g) = some r ∧ soE (tin τ K) K b s0 a t s h r := by
  intro q
  induction q with
  | zero =>
    intro c g hc E P R
    have hc : c = 50 := by omega
    subst hc
    have go : ∃ r, lp (fun q : Int32 × Int32 × Int32 × Int32 × Int32 × Int32 × Hp => s_Mod_soonestOf_76 q.1 q.2.1 q.2.2.1 q.2.2.2.1 q.2.2.2.2.1 q.2.2.2.2.2.1 q.2.2.2.2.2.2) (nI b, nI s0, nI a, nI t, nI s, nI 0, g) = some r ∧ soE (tin τ K) K b s0 a t s h r := by
      by_cases z : s = s0
      · obtain ⟨r, r1, r2⟩ := p_so167 (t := t) hs hs2 ht E P (fun d hd => by
          rw [R d hd]
          unfold f0B
          rw [decide_eq_true z, Bool.true_and, z, Nat.sub_self, rch])
        refine ⟨r, lp_inr ?_, r2⟩
        show s_Mod_soonestOf_76 (nI b) (nI s0) (nI a) (nI t) (nI s) (nI 0) g = _
        unfold s_Mod_soonestOf_76
        rw [if_neg (show ¬ (50 : Int32) ≤ nI 0 by decide), if_pos (by rw [nI_leI (by omega) (by omega)]; omega), r1]
        rfl
      · refine p_so76 X hb ht (by omega) hs2 50 0 g (by omega) E P (fun d hd => ?_)
        rw [R d hd]
        unfold f0B qB
        rw [decide_eq_false z, Bool.false_and, List.range_zero, List.any_nil]
    obtain ⟨r, r1, r2⟩ := go
    refine ⟨r, lp_inr ?_, r2⟩
    show s_Mod_soonestOf_14 (nI b) (nI s0) (nI a) (nI t) (nI s) (nI 50) g = _
    unfold s_Mod_soonestOf_14
    have r1' : lp (fun q : Int32 × Int32 × Int32 × Int32 × Int32 × Int32 × Hp => s_Mod_soonestOf_76 q.1 q.2.1 q.2.2.1 q.2.2.2.1 q.2.2.2.2.1 q.2.2.2.2.2.1 q.2.2.2.2.2.2) (nI b, nI s0, nI a, nI t, nI s, 0, g) = some r := r1
    rw [if_pos (show (50 : Int32) ≤ nI 50 by decide), r1']
    rfl
  | succ q ih =>
    intro c g hc E P R
    have hc2 : c < 50 := by omega
    have Xg := LX_100 X E
    have e66 : ∀ x : Bool, s_Mod_soonestOf_66 (nI b) (nI s0) (nI a) (nI t) (nI s) (nI c) (b01 x) (50 * nI s + nI c) g = some (.inl (nI b, nI s0, nI a, nI t, nI s, nI (c + 1), sI g 100 (50 * s + c) (b01 x))) := fun x => by
      unfold s_Mod_soonestOf_66
      rw [i50, ib_nI (by omega) (by decide), show ix (nI (50 * s + c)) = 50 * s + c from nI_clamp (by omega), nI_1]
      cases x <;> rfl
    have stp : s_Mod_soonestOf_14 (nI b) (nI s0) (nI a) (nI t) (nI s) (nI c) g = some (.inl (nI b, nI s0, nI a, nI t, nI s, nI (c + 1), sI g 100 (50 * s + c) (b01 (f0B (tin τ K) K b s0 a s c)))) := by
      rw [← e66]
      unfold s_Mod_soonestOf_14 s_Mod_soonestOf_65 f0B
      rw [if_neg (by rw [show (50 : Int32) = nI 50 from rfl, nI_leI (by decide) (by omega)]; omega)]
      by_cases z : s = s0
      · rw [if_pos (by rw [z]), decide_eq_true z, Bool.true_and]
        by_cases y : c = a
        · rw [if_pos (by rw [y]), decide_eq_true y, Bool.true_and, p_minuteOf (by omega) (by decide), Option.bind_some, mnS_0 hs2, p_canBeR Xg hb hc2 (by omega), Option.bind_some, y, z]
          cases canB (tin τ K) K b a (10 * s0)
          · rw [if_pos (show (if false = true then (1 : Int32) else 0) = 0 by decide)]; rfl
          · rw [if_neg (show ¬ (if true = true then (1 : Int32) else 0) = 0 by decide)]; rfl
        · rw [if_neg (by rw [nI_eq (by omega) (by omega)]; exact y), decide_eq_false y, Bool.false_and]; rfl
      · rw [if_neg (by rw [nI_eq (by omega) (by omega)]; exact z), decide_eq_false z, Bool.false_and]; rfl
    rw [lp_inl stp]
    refine ih (c + 1) _ (by omega) (eqO_sI E (by decide)) (RCm_w P) (fun d hd => ?_)
    rw [hI_sI']
    by_cases z : d = c
    · rw [if_pos ⟨rfl, by omega⟩, z]
    · rw [if_neg (by omega)]
      exact R d (by omega)
theorem p_soonR {τ : Nat → TF} {K : Nat → Int32} {b s0 a t : Nat} {h : Hp} (X : LX τ K h) (hb : b < 6) (hs0 : s0 < 144) (ha : a < 50) (ht : t < 50) : ∃ h2, s_Mod_soonestOf (nI b) (nI s0) (nI a) (nI t) h = some (oI (snO (tin τ K) K b s0 a t), h2) ∧ eqO s100 h h2 ∧ ∀ u, snO (tin τ K) K b s0 a t = some u → RCm (tin τ K) K b s0 a (u + 1) h2 := by
  have loop : ∀ (q s : Nat) (g : Hp), s + q = 144 → s0 ≤ s → eqO s100 h g → RCm (tin τ K) K b s0 a s g → ∃ h2, lp (fun q : Int32 × Int32 × Int32 × Int32 × Int32 × Hp => s_Mod_soonestOf_3 q.1 q.2.1 q.2.2.1 q.2.2.2.1 q.2.2.2.2.1 q.2.2.2.2.2) (nI b, nI s0, nI a, nI t, nI s, g) = some (oI (snF (fun s => rch (tin τ K) K b s0 a (s - s0) t) q s), h2) ∧ eqO s100 h h2 ∧ ∀ u, snF (fun s => rch (tin τ K) K b s0 a (s - s0) t) q s = some u → RCm (tin τ K) K b s0 a (u + 1) h2 := by
    intro q
    induction q with
    | zero =>
      intro s g hs h0 E P
      have hs : s = 144 := by omega
      subst hs
      refine ⟨g, lp_inr ?_, E, fun u e => by cases e⟩
      show s_Mod_soonestOf_3 (nI b) (nI s0) (nI a) (nI t) (nI 144) g = _
      unfold s_Mod_soonestOf_3
      rw [if_pos (show (144 : Int32) ≤ nI 144 by decide)]
      rfl
    | succ q ih =>
      intro s g hs h0 E P
      obtain ⟨r, r1, g2, r2, r3, r4⟩ := p_so14 (t := t) X hb ha ht h0 (by omega) 50 0 g (by omega) E P (fun d hd => absurd hd (by omega))
      have stp : s_Mod_soonestOf_3 (nI b) (nI s0) (nI a) (nI t) (nI s) g = some r := by
        unfold s_Mod_soonestOf_3
        rw [if_neg (by rw [show (144 : Int32) = nI 144 from rfl, nI_leI (by decide) (by omega)]; omega)]
        exact r1
      rw [snF]
      cases e : rch (tin τ K) K b s0 a (s - s0) t
      · rw [r2, e, if_neg (show ¬ false = true by decide)] at stp
        rw [lp_inl stp, if_neg (show ¬ false = true by decide)]
        exact ih (s + 1) g2 (by omega) (by omega) r3 r4
      · rw [r2, e, if_pos rfl] at stp
        rw [lp_inr stp, if_pos rfl]
        refine ⟨g2, rfl, r3, fun u eu => ?_⟩
        cases eu
        exact r4
  exact loop (144 - s0) s0 h (by omega) (Nat.le_refl _) (eqO_refl _ _) (fun s2 c h1 h2 => absurd h2 (by omega))
def aSoonest (x1 x2 x3 x4 : Int32) (T : TF) (K : Nat → Int32) : Int32 := if wi x1 0 (K 185 - 1) = 0 then -1 else if wi x2 0 143 = 0 then -1 else if wi x3 0 49 = 0 then -1 else if wi x4 0 49 = 0 then -1 else oI (snO T K (ix x1) (ix x2) (ix x3) (ix x4))
theorem p_ways {τ : Nat → TF} {K : Nat → Int32} {h : Hp} {b : Nat} (hb : b < 6) (X : QX τ K h) : ∃ h1 h2, s_Water_freshenToday h = some h1 ∧ s_Ways_survey (nI b) h1 = some h2 ∧ eqO sC h h2 ∧ WX τ K b h2 := by
  obtain ⟨h1, a1, a2, a3⟩ := p_todayX X
  obtain ⟨h2, b1, b2, b3⟩ := p_survey hb a3
  exact ⟨h1, h2, a1, b1, eqO_trans a2 (eqO_mono b2 sWy_sC), b3⟩
theorem C_soonest {τ : Nat → TF} {K : Nat → Int32} {h : Hp} (x1 x2 x3 x4 : Int32) (X : QX τ K h) : ∃ h1, s_Race_soonest x1 x2 x3 x4 h = some (aSoonest x1 x2 x3 x4 (tin τ K) K, h1) ∧ CQ (tin τ K) K h h1 := by
  unfold s_Race_soonest s_Race_soonest_30 aSoonest
  rw [p_isBoatC X.1.1, Option.bind_some]
  by_cases h1 : wi x1 0 (K 185 - 1) = 0
  · rw [if_pos h1, if_pos h1]; exact ⟨h, rfl, QX_CQ X (eqO_refl _ _) X⟩
  rw [if_neg h1, if_neg h1, p_isStepC, Option.bind_some]
  by_cases h2 : wi x2 0 143 = 0
  · rw [if_pos h2, if_pos h2]; exact ⟨h, rfl, QX_CQ X (eqO_refl _ _) X⟩
  rw [if_neg h2, if_neg h2, p_isCellC, Option.bind_some]
  by_cases h3 : wi x3 0 49 = 0
  · rw [if_pos h3, if_pos h3]; exact ⟨h, rfl, QX_CQ X (eqO_refl _ _) X⟩
  rw [if_neg h3, if_neg h3, p_isCellC, Option.bind_some]
  by_cases h4 : wi x4 0 49 = 0
  · rw [if_pos h4, if_pos h4]; exact ⟨h, rfl, QX_CQ X (eqO_refl _ _) X⟩
  rw [if_neg h4, if_neg h4]
  obtain ⟨b, hb, rfl⟩ := boat_n X.1.2.1 (wi_n0 h1)
  obtain ⟨s, hs, rfl⟩ := wi_nat (b := 143) (by decide) (wi_n0 h2)
  obtain ⟨c, hc, rfl⟩ := wi_nat (b := 49) (by decide) (wi_n0 h3)
  obtain ⟨t, ht, rfl⟩ := wi_nat (b := 49) (by decide) (wi_n0 h4)
  obtain ⟨g1, g2, a1, a2, a3, a4⟩ := p_ways hb X
  rw [a1, Option.bind_some, a2, Option.bind_some, p_first a4 (by omega) (by omega) (by omega), Option.bind_some, show ix (nI b) = b from nI_clamp (by omega), show ix (nI s) = s from nI_clamp (by omega), show ix (nI c) = c from nI_clamp (by omega), show ix (nI t) = t from nI_clamp (by omega)]
  exact ⟨g2, rfl, QX_CQ X a3 a4.1.1⟩
theorem RE_wy {T : TF} {K : Nat → Int32} {n : Nat} {h h2 : Hp} {S : Nat → Bool} (E : eqO S h h2) (hS : ∀ j, S j = true → 100 ≤ j ∧ j ≤ 112) (rc : RC T K n h) : RE T K n h h2 := by
  have no : ∀ j, (j < 100 ∨ 112 < j) → S j = false := fun j hj => by
    cases e : S j
    · rfl
    · have := hS j e
      omega
  refine ⟨eqO_mono E (fun j hj => ?_), m84_of E (no 84 (by decide)), RC_k rc (by rw [(E.2 84 (no 84 (by decide))).1]) (by rw [(E.2 84 (no 84 (by decide))).1]) (E.2 97 (no 97 (by decide))).1 (E.2 99 (no 99 (by decide))).1⟩
  unfold sRf at hj
  simp only [Bool.or_eq_false_iff, Bool.and_eq_false_iff, decide_eq_false_iff_not] at hj
  exact no j (by omega)
theorem RE_trans {T : TF} {K : Nat → Int32} {n : Nat} {h h1 h2 : Hp} (a1 : eqO sRf h h1) (a2 : m84 mnF h h1) (b : RE T K n h1 h2) : RE T K n h h2 := ⟨eqO_trans a1 b.1, m84_trans a2 b.2.1, b.2.2⟩
theorem s100_r (j : Nat) (h : s100 j = true) : 100 ≤ j ∧ j ≤ 112 := by
  have : j = 100 := of_decide_eq_true h
  omega
theorem R_soonest {τ : Nat → TF} {K : Nat → Int32} {n : Nat} {h : Hp} (x1 x2 x3 x4 : Int32) (X : RX τ K h) (rc : RC (tin τ K) K n h) : ∃ h2, s_Mod_soonest x1 x2 x3 x4 h = some (aSoonest x1 x2 x3 x4 (tin τ K) K, h2) ∧ RE (tin τ K) K n h h2 := by
  unfold s_Mod_soonest aSoonest
  rw [p_isWay X, Option.bind_some]
  by_cases h1 : wi x1 0 (K 185 - 1) = 0
  · rw [if_pos h1, if_pos h1, if_pos rfl]; exact ⟨h, rfl, RE_refl rc⟩
  rw [if_neg h1, if_neg h1]
  by_cases h2 : wi x2 0 143 = 0
  · rw [if_pos h2, if_pos h2, if_pos rfl]; exact ⟨h, rfl, RE_refl rc⟩
  rw [if_neg h2, if_neg h2]
  by_cases h3 : wi x3 0 49 = 0
  · rw [if_pos h3, if_pos h3, if_pos rfl]; exact ⟨h, rfl, RE_refl rc⟩
  rw [if_neg h3, if_neg h3]
  by_cases h4 : wi x4 0 49 = 0
  · rw [if_pos h4, if_pos h4, if_pos rfl]; exact ⟨h, rfl, RE_refl rc⟩
  rw [if_neg h4, if_neg h4, if_neg (show ¬ (1 : Int32) = 0 by decide)]
  obtain ⟨b, hb, rfl⟩ := boat_n X.2.1 (wi_n0 h1)
  obtain ⟨s, hs, rfl⟩ := wi_nat (b := 143) (by decide) (wi_n0 h2)
  obtain ⟨c, hc, rfl⟩ := wi_nat (b := 49) (by decide) (wi_n0 h3)
  obtain ⟨t, ht, rfl⟩ := wi_nat (b := 49) (by decide) (wi_n0 h4)
  obtain ⟨u, b1, b2, b3, b4, b5, b6⟩ := p_looks X rc
  obtain ⟨h2, c1, c2, c3⟩ := p_soonR (s0 := s) (a := c) (t := t) ⟨b4, b6⟩ hb (by omega) (by omega) (by omega)
  rw [b1, Option.bind_some, c1, Option.bind_some, show ix (nI b) = b from nI_clamp (by omega), show ix (nI s) = s from nI_clamp (by omega), show ix (nI c) = c from nI_clamp (by omega), show ix (nI t) = t from nI_clamp (by omega)]
  exact ⟨h2, rfl, RE_trans b2 b3 (RE_wy c2 s100_r b5)⟩
theorem Q_soonest (n : Nat) (x1 x2 x3 x4 : Int32) (h : Hp) (_ : n < 512) (hi : Inv n h) : ∃ h2, q_soonest x1 x2 x3 x4 h = some h2 ∧ Inv (n + 1) h2 := ask hi (aSoonest x1 x2 x3 x4) (fun _ _ X => C_soonest x1 x2 x3 x4 X) (fun _ _ _ _ X rc => R_soonest x1 x2 x3 x4 X rc)
