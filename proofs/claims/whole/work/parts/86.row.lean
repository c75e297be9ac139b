/-! row -/
theorem i2b_small : ∀ b, b < 256 → (wi (z_i2b (nI b)) 0 5 = 1 ↔ b < 6) ∧ (b < 6 → z_i2b (nI b) = nI b) := by decide +kernel
/-- a byte that tells a kind; how many of the first m; the kept numbers with them -/
def rwB (y : Nat → Nat) (i : Nat) : Bool := decide (i < 50) && decide (y i < 6)
def rwN (y : Nat → Nat) : Nat → Nat
  | 0 => 0
  | m + 1 => rwN y m + (if rwB y m then 1 else 0)
theorem rwN_le (y : Nat → Nat) : ∀ m, rwN y m ≤ m
  | 0 => Nat.le_refl _
  | m + 1 => by
    unfold rwN
    have := rwN_le y m
    split <;> omega
theorem p_rowC {k : Nat} {h : Hp} {y : Nat → Nat} (hk : k ≤ 400) (hk0 : 0 < k) (e : hI h 45 1 = nI k) (hy : ∀ i, i < k → y i < 256 ∧ hI h 46 i = nI (y i)) : ∃ h1, s_Race_row h = some (nI (rwN y k), sI (sI (sI h1 0 13 (nI (k - rwN y k))) 45 1 0) 0 12 0) ∧ eqO (fun j => decide (j = 5)) h h1 ∧ ∀ c, hI h1 5 c = if c < k ∧ rwB y c then nI (y c) else hI h 5 c := by
  have key : ∀ (q m : Nat) (g : Hp), m + q = k → eqO (fun j => decide (j = 5)) h g → (∀ c, hI g 5 c = if c < m ∧ rwB y c then nI (y c) else hI h 5 c) → ∃ h1, lp (fun q : Int32 × Int32 × Hp => s_Race_row_21 q.1 q.2.1 q.2.2) (nI (rwN y m), nI m, g) = some (nI (rwN y k), sI (sI (sI h1 0 13 (nI (k - rwN y k))) 45 1 0) 0 12 0) ∧ eqO (fun j => decide (j = 5)) h h1 ∧ ∀ c, hI h1 5 c = if c < k ∧ rwB y c then nI (y c) else hI h 5 c := by
    intro q
    induction q with
    | zero =>
      intro m g hm E e1
      have hm : m = k := by omega
      subst hm
      refine ⟨g, lp_inr ?_, E, e1⟩
      have e45 : hI g 45 1 = nI m := by rw [(E.2 45 (by decide)).1]; exact e
      show s_Race_row_21 (nI (rwN y m)) (nI m) g = _
      unfold s_Race_row_21
      rw [e45, if_pos (Int32.le_refl _), lt_eq, p_grant, Option.bind_some, nI_sub (rwN_le y m)]
    | succ q ih =>
      intro m g hm E e1
      have e45 : hI g 45 1 = nI k := by rw [(E.2 45 (by decide)).1]; exact e
      have e46 : hI g 46 m = nI (y m) := by rw [(E.2 46 (by decide)).1]; exact (hy m (by omega)).2
      have hym := (hy m (by omega)).1
      have stp : s_Race_row_21 (nI (rwN y m)) (nI m) g = if rwB y m then some (.inl (nI (rwN y m + 1), nI (m + 1), sI g 5 m (nI (y m)))) else some (.inl (nI (rwN y m), nI (m + 1), g)) := by
        unfold s_Race_row_21 s_Race_row_73 rwB
        rw [e45, if_neg (by rw [nI_leI (by omega) (by omega)]; omega), nI_1, nI_1]
        by_cases z : m < 50
        · rw [if_neg (by rw [show (50 : Int32) = nI 50 from rfl, nI_leI (by decide) (by omega)]; omega), ib_nI (by omega) (by decide), show ix (nI m) = m from nI_clamp (by omega), e46, decide_eq_true z, Bool.true_and]
          by_cases w : y m < 6
          · rw [if_neg (by rw [show (6 : Int32) = nI 6 from rfl, nI_leI (by decide) (by omega)]; omega), ib_nI (by omega) (by decide), ib_nI z (by decide), decide_eq_true w]
            rfl
          · rw [if_pos (by rw [show (6 : Int32) = nI 6 from rfl, nI_leI (by decide) (by omega)]; omega), decide_eq_false w]
            rfl
        · rw [if_pos (by rw [show (50 : Int32) = nI 50 from rfl, nI_leI (by decide) (by omega)]; omega), decide_eq_false z]
          rfl
      by_cases z : rwB y m = true
      · rw [if_pos z] at stp
        have en : rwN y (m + 1) = rwN y m + 1 := by rw [rwN, if_pos z]
        rw [lp_inl stp, ← en]
        refine ih (m + 1) _ (by omega) (eqO_sI E (by decide)) (fun c => ?_)
        rw [hI_sI', e1]
        by_cases w : c = m
        · rw [if_pos ⟨rfl, w⟩, w, if_pos ⟨by omega, z⟩]
        · rw [if_neg (fun x => w x.2)]
          by_cases x : c < m ∧ rwB y c = true
          · rw [if_pos x, if_pos ⟨by omega, x.2⟩]
          · rw [if_neg x, if_neg (fun u => x ⟨by omega, u.2⟩)]
      · rw [if_neg z] at stp
        have en : rwN y (m + 1) = rwN y m := by rw [rwN, if_neg z]; rfl
        rw [lp_inl stp, ← en]
        refine ih (m + 1) _ (by omega) E (fun c => ?_)
        rw [e1]
        by_cases x : c < m ∧ rwB y c = true
        · rw [if_pos x, if_pos ⟨by omega, x.2⟩]
        · rw [if_neg x, if_neg (fun u => x ⟨by
            rcases (show c < m ∨ c = m by omega) with v | v
            · exact v
            · exfalso; exact z (by rw [← v]; exact u.2), u.2⟩)]
  obtain ⟨h1, a1, a2, a3⟩ := key k 0 h (by omega) (eqO_refl _ _) (fun c => by rw [if_neg (by omega)])
  refine ⟨h1, ?_, a2, a3⟩
  unfold s_Race_row
  rw [e, if_neg (nI_ne0 hk0 (by omega))]
  exact a1
theorem p_rowR {k : Nat} {h : Hp} {y : Nat → Nat} (hk : k ≤ 400) (hk0 : 0 < k) (e : hI h 84 10 = nI k) (hy : ∀ i, i < k → y i < 256 ∧ hI h 90 i = z_i2b (nI (y i))) : ∃ h1, s_Mod_row h = some (nI (rwN y k), gdR h1) ∧ eqO (fun j => decide (j = 84) || decide (j = 86)) h h1 ∧ (∀ j, hI h1 86 j = if 41 ≤ j ∧ j < 41 + k ∧ rwB y (j - 41) then nI (y (j - 41)) else hI h 86 j) ∧ ∀ q, hI h1 84 q = if q = 10 then 0 else if q = 6 then nI (k - rwN y k) else hI h 84 q := by
  have key : ∀ (q m : Nat) (g : Hp), m + q = k → eqO (fun j => decide (j = 84) || decide (j = 86)) h g → (∀ j, hI g 86 j = if 41 ≤ j ∧ j < 41 + m ∧ rwB y (j - 41) then nI (y (j - 41)) else hI h 86 j) → (∀ q, hI g 84 q = if q = 10 then 0 else if q = 6 then nI (m - rwN y m) else hI h 84 q) → ∃ h1, lp (fun q : Int32 × Int32 × Int32 × Hp => s_Mod_row_30 q.1 q.2.1 q.2.2.1 q.2.2.2) (nI k, nI (rwN y m), nI m, g) = some (nI (rwN y k), gdR h1) ∧ eqO (fun j => decide (j = 84) || decide (j = 86)) h h1 ∧ (∀ j, hI h1 86 j = if 41 ≤ j ∧ j < 41 + k ∧ rwB y (j - 41) then nI (y (j - 41)) else hI h 86 j) ∧ ∀ q, hI h1 84 q = if q = 10 then 0 else if q = 6 then nI (k - rwN y k) else hI h 84 q := by
    intro q
    induction q with
    | zero =>
      intro m g hm E e1 e2
      have hm : m = k := by omega
      subst hm
      refine ⟨g, lp_inr ?_, E, e1, e2⟩
      show s_Mod_row_30 (nI m) (nI (rwN y m)) (nI m) g = _
      unfold s_Mod_row_30
      rw [if_pos (Int32.le_refl _), p_goodR, Option.bind_some]
    | succ q ih =>
      intro m g hm E e1 e2
      have e90 : hI g 90 m = z_i2b (nI (y m)) := by rw [(E.2 90 (by decide)).1]; exact (hy m (by omega)).2
      have hym := (hy m (by omega)).1
      obtain ⟨b1, b2⟩ := i2b_small (y m) hym
      have f6 : hI g 84 6 = nI (m - rwN y m) := by rw [e2, if_neg (by decide), if_pos rfl]
      have rl := rwN_le y m
      have no : s_Mod_row_59 (nI k) (nI (rwN y m)) (nI m) g = some (.inl (nI k, nI (rwN y m), nI (m + 1), sI g 84 6 (nI (m + 1 - rwN y m)))) := by
        unfold s_Mod_row_59 s_Mod_row_60 s_Mod_row_82 s_Mod_row_93 s_Mod_row_110
        rw [if_pos rfl, if_pos rfl, if_pos rfl, f6, nI_1, nI_1, Int32.add_zero, show m - rwN y m + 1 = m + 1 - rwN y m by omega]
      have stp : s_Mod_row_30 (nI k) (nI (rwN y m)) (nI m) g = if rwB y m then some (.inl (nI k, nI (rwN y m + 1), nI (m + 1), sI (sI g 86 (41 + m) (nI (y m))) 84 6 (nI (m - rwN y m)))) else some (.inl (nI k, nI (rwN y m), nI (m + 1), sI g 84 6 (nI (m + 1 - rwN y m)))) := by
        unfold s_Mod_row_30
        rw [if_neg (by rw [nI_leI (by omega) (by omega)]; omega), no]
        unfold rwB
        by_cases z : m < 50
        · rw [if_neg (by rw [show (50 : Int32) = nI 50 from rfl, nI_leI (by decide) (by omega)]; omega), ib_nI (by omega) (by decide), show ix (nI m) = m from nI_clamp (by omega), e90, p_lies, Option.bind_some, decide_eq_true z, Bool.true_and]
          by_cases w : y m < 6
          · rw [b1.mpr w, if_neg (by decide), decide_eq_true w]
            unfold s_Mod_row_60 s_Mod_row_82 s_Mod_row_93 s_Mod_row_110
            rw [if_neg (show ¬ (1 : Int32) = 0 by decide), ib_nI (by omega) (by decide), show (41 : Int32) = nI 41 from rfl, nI_add, ib_nI (by omega) (by decide), show ix (nI (41 + m)) = 41 + m from nI_clamp (by omega), show ix (nI m) = m from nI_clamp (by omega), e90, b2 w, if_neg (show ¬ (1 : Int32) = 0 by decide), if_neg (show ¬ (1 : Int32) = 0 by decide), hI_sI_ne (by decide), f6, nI_1, nI_1, Int32.add_zero]
            rfl
          · have : ¬ wi (z_i2b (nI (y m))) 0 5 = 1 := fun x => w (b1.mp x)
            rw [if_pos (by rcases wi_or (z_i2b (nI (y m))) 0 5 with x | x; exact x; exact absurd x this), decide_eq_false w]
            rfl
        · rw [if_pos (by rw [show (50 : Int32) = nI 50 from rfl, nI_leI (by decide) (by omega)]; omega), decide_eq_false z]
          rfl
      by_cases z : rwB y m = true
      · rw [if_pos z] at stp
        have en : rwN y (m + 1) = rwN y m + 1 := by rw [rwN, if_pos z]
        rw [lp_inl stp, ← en]
        refine ih (m + 1) _ (by omega) (eqO_sI (eqO_sI E (by decide)) (by decide)) (fun c => ?_) (fun q => ?_)
        · rw [hI_sI_ne (by decide), hI_sI', e1]
          by_cases w : c = 41 + m
          · rw [if_pos ⟨rfl, w⟩, if_pos ⟨by omega, by omega, by rw [show c - 41 = m by omega]; exact z⟩, show c - 41 = m by omega]
          · rw [if_neg (fun x => w x.2)]
            by_cases x : 41 ≤ c ∧ c < 41 + m ∧ rwB y (c - 41) = true
            · rw [if_pos x, if_pos ⟨by omega, by omega, x.2.2⟩]
            · rw [if_neg x, if_neg (fun u => x ⟨by omega, by omega, u.2.2⟩)]
        · rw [hI_sI', hI_sI_ne (by decide), e2]
          by_cases w : q = 6
          · rw [if_pos ⟨rfl, w⟩, if_neg (show ¬ q = 10 by omega), if_pos w, en, show m + 1 - (rwN y m + 1) = m - rwN y m by omega]
          · rw [if_neg (fun x => w x.2), if_neg w, if_neg w]
      · rw [if_neg z] at stp
        have en : rwN y (m + 1) = rwN y m := by rw [rwN, if_neg z]; rfl
        rw [lp_inl stp, ← en]
        refine ih (m + 1) _ (by omega) (eqO_sI E (by decide)) (fun c => ?_) (fun q => ?_)
        · rw [hI_sI_ne (by decide), e1]
          by_cases x : 41 ≤ c ∧ c < 41 + m ∧ rwB y (c - 41) = true
          · rw [if_pos x, if_pos ⟨by omega, by omega, x.2.2⟩]
          · rw [if_neg x, if_neg (fun u => x ⟨u.1, by
              rcases (show c < 41 + m ∨ c = 41 + m by omega) with v | v
              · exact v
              · exfalso; exact z (by rw [show m = c - 41 by omega]; exact u.2.2), u.2.2⟩)]
        · rw [hI_sI', e2]
          by_cases w : q = 6
          · rw [if_pos ⟨rfl, w⟩, if_neg (show ¬ q = 10 by omega), if_pos w, en]
          · rw [if_neg (fun x => w x.2), if_neg w, if_neg w]
  obtain ⟨h1, a1, a2, a3, a4⟩ := key k 0 (sI (sI h 84 10 0) 84 6 0) (by omega) (eqO_sI (eqO_sI (eqO_refl _ _) (by decide)) (by decide)) (fun c => by rw [if_neg (by omega), hI_sI_ne (by decide), hI_sI_ne (by decide)]) (fun q => by
    rw [hI_sI', hI_sI']
    by_cases w : q = 6
    · rw [if_pos ⟨rfl, w⟩, if_neg (show ¬ q = 10 by omega), if_pos w]; rfl
    · rw [if_neg (fun x => w x.2), if_neg w]
      by_cases v : q = 10
      · rw [if_pos ⟨rfl, v⟩, if_pos v]
      · rw [if_neg (fun x => v x.2), if_neg v])
  refine ⟨h1, ?_, a2, a3, a4⟩
  unfold s_Mod_row
  rw [e, if_neg (nI_ne0 hk0 (by omega))]
  exact a1
theorem CC_same2 {τ : Nat → TF} {K K2 : Nat → Int32} {h B : Hp} (rw0 : RW h) (H : CC (tin τ K) K h) (e190 : K2 190 = K 190) (eF : mk pF K2 = mk pF K) (eS : mk pS K2 = mk pS K) (eD : mk pD K2 = mk pD K) (E : eqC h B) : CC (tin τ K2) K2 B := by
  have et : tin τ K2 = tin τ K := by unfold tin; rw [e190]
  have c := CC_eqC E rw0 H
  rw [et]
  exact ⟨by rw [eF]; exact c.1, C69_eq (h := B) rfl rfl rfl eF eS c.2.1, C74_eq (h := B) rfl rfl eD c.2.2⟩
theorem pl_n4 : ∀ j, j < 191 → ¬ (41 ≤ j ∧ j < 91) → (pl j).1 ≠ 4 := by decide +kernel
theorem Q_row (n : Nat) (h : Hp) (hn : n < 512) (hi : Inv n h) : ∃ h2, q_row h = some h2 ∧ Inv (n + 1) h2 := by
  obtain ⟨τ, hi⟩ := hi
  unfold q_row
  have hi0 := hi
  obtain ⟨sm, im, ⟨k, hk, t1, t2, t3⟩, ss, rw0, cc, rc, dr, rm, wd⟩ := hi0
  by_cases h0 : k = 0
  · subst h0
    have e1 : s_Race_row h = some (-6, rfC h (-6)) := by
      unfold s_Race_row
      rw [t1, if_pos (show nI 0 = 0 from rfl), p_refuse, Option.bind_some]
    have s10 : sI (rfC h (-6)) 84 10 0 = rfC h (-6) := by
      have : hI (rfC h (-6)) 84 10 = 0 := by
        unfold rfC
        rw [hI_sI_ne (by decide), hI_sI_ne (by decide)]
        exact t2
      have ee : hI (sI (rfC h (-6)) 84 10 0) = hI (rfC h (-6)) := by
        funext a b
        rw [hI_sI']
        by_cases z : a = 84 ∧ b = 10
        · rw [if_pos z, z.1, z.2, this]
        · rw [if_neg z]
      exact Prod.ext ee rfl
    have e2 : s_Mod_row (rfC h (-6)) = some (-6, rfR (rfC h (-6)) (-6)) := by
      have : hI (rfC h (-6)) 84 10 = 0 := by
        unfold rfC
        rw [hI_sI_ne (by decide), hI_sI_ne (by decide)]
        exact t2
      unfold s_Mod_row
      rw [if_pos this, s10, p_refR _ (Or.inr (Or.inr (Or.inr rfl))), Option.bind_some]
    rw [e1, Option.bind_some]
    show ∃ h2, ((s_Mod_row (rfC h (-6))).bind fun w => if (-6 : Int32) = w.1 then some w.2 else none) = some h2 ∧ _
    rw [e2, Option.bind_some, if_pos rfl]
    exact ⟨_, rfl, τ, refuse_ok hi (Or.inr (Or.inr (Or.inr rfl)))⟩
  · have hy : ∃ y : Nat → Nat, ∀ i, i < k → y i < 256 ∧ hI h 46 i = nI (y i) ∧ hI h 90 i = z_i2b (nI (y i)) := by
      refine ⟨fun i => ix (hI h 46 i), fun i hi => ?_⟩
      obtain ⟨⟨b, hb, eb⟩, e90⟩ := t3 i hi
      have : ix (hI h 46 i) = b := by rw [eb]; exact nI_clamp (by omega)
      show ix (hI h 46 i) < 256 ∧ hI h 46 i = nI (ix (hI h 46 i)) ∧ hI h 90 i = z_i2b (nI (ix (hI h 46 i)))
      rw [this]
      exact ⟨hb, eb, by rw [← eb]; exact e90⟩
    obtain ⟨y, hy⟩ := hy
    obtain ⟨h1, a1, a2, a3⟩ := p_rowC hk (by omega) t1 (fun i hi => ⟨(hy i hi).1, (hy i hi).2.1⟩)
    have g1 : ∀ j, j ≠ 0 → j ≠ 5 → j ≠ 45 → hI (sI (sI (sI h1 0 13 (nI (k - rwN y k))) 45 1 0) 0 12 0) j = hI h j := fun j z0 z5 z45 => by
      rw [hI_sI_ne z0, hI_sI_ne z45, hI_sI_ne z0, (a2.2 j (decide_eq_false z5)).1]
    obtain ⟨h2, b1, b2, b3, b4⟩ := p_rowR (h := sI (sI (sI h1 0 13 (nI (k - rwN y k))) 45 1 0) 0 12 0) hk (by omega) (by rw [g1 84 (by decide) (by decide) (by decide)]; exact t2) (fun i hi => ⟨(hy i hi).1, by rw [g1 90 (by decide) (by decide) (by decide)]; exact (hy i hi).2.2⟩)
    rw [g1 86 (by decide) (by decide) (by decide)] at b3
    rw [g1 84 (by decide) (by decide) (by decide)] at b4
    rw [a1, Option.bind_some]
    show ∃ h2, ((s_Mod_row (sI (sI (sI h1 0 13 (nI (k - rwN y k))) 45 1 0) 0 12 0)).bind fun w => if nI (rwN y k) = w.1 then some w.2 else none) = some h2 ∧ _
    rw [b1, Option.bind_some, if_pos rfl]
    refine ⟨gdR h2, rfl, τ, ?_⟩
    have no2 : ∀ j, j ≠ 84 → j ≠ 86 → (decide (j = 84) || decide (j = 86)) = false := fun j z1 z2 => by
      rw [decide_eq_false z1, decide_eq_false z2]
      rfl
    have gd : ∀ j, j ≠ 84 → hI (gdR h2) j = hI h2 j := fun j z => by
      unfold gdR
      rw [hI_sI_ne z, hI_sI_ne z]
    have g : ∀ j, j ≠ 0 → j ≠ 5 → j ≠ 45 → j ≠ 84 → j ≠ 86 → hI (gdR h2) j = hI h j := fun j z0 z5 z45 z84 z86 => by
      rw [gd j z84, (b2.2 j (no2 j z84 z86)).1, g1 j z0 z5 z45]
    have t22 : (gdR h2).2.2 = h.2.2 := (show h2.2.2 = h.2.2 from b2.1.trans a2.1)
    have gL : ∀ j, j ≠ 5 → j ≠ 84 → j ≠ 86 → hL (gdR h2) j = hL h j := fun j z5 z84 z86 => by
      show hL h2 j = _
      rw [(b2.2 j (no2 j z84 z86)).2]
      exact (a2.2 j (decide_eq_false z5)).2
    have E : eqO (fun j => decide (j = 0) || decide (j = 5) || decide (j = 45) || decide (j = 84) || decide (j = 86)) h (gdR h2) := ⟨t22, fun j hj => by
      simp only [Bool.or_eq_false_iff, decide_eq_false_iff_not] at hj
      exact ⟨g j hj.1.1.1.1 hj.1.1.1.2 hj.1.1.2 hj.1.2 hj.2, gL j hj.1.1.1.2 hj.1.2 hj.2⟩⟩
    have noE : ∀ j, j ≠ 0 → j ≠ 5 → j ≠ 45 → j ≠ 84 → j ≠ 86 → (fun j => decide (j = 0) || decide (j = 5) || decide (j = 45) || decide (j = 84) || decide (j = 86)) j = false := fun j z1 z2 z3 z4 z5 => by
      show (decide (j = 0) || decide (j = 5) || decide (j = 45) || decide (j = 84) || decide (j = 86)) = false
      rw [decide_eq_false z1, decide_eq_false z2, decide_eq_false z3, decide_eq_false z4, decide_eq_false z5]
      rfl
    have F := Fr_of E (fun j hj => by have : 114 ≤ j := hj; exact noE j (by omega) (by omega) (by omega) (by omega) (by omega))
    have k84 : ∀ q, q ≠ 0 → q ≠ 1 → q ≠ 10 → q ≠ 6 → hI (gdR h2) 84 q = hI h 84 q := fun q q0 q1 q10 q6 => by
      rw [gdR_84, if_neg q0, if_neg q1, b4, if_neg q10, if_neg q6]
    have e86 : ∀ j, hI (gdR h2) 86 j = if 41 ≤ j ∧ j < 41 + k ∧ rwB y (j - 41) then nI (y (j - 41)) else hI h 86 j := fun j => by rw [gd 86 (by decide)]; exact b3 j
    have k86 : ∀ j, ¬ (41 ≤ j ∧ j < 91) → hI (gdR h2) 86 j = hI h 86 j := fun j z => by
      rw [e86, if_neg]
      rintro ⟨x1, x2, x3⟩
      unfold rwB at x3
      simp only [Bool.and_eq_true, decide_eq_true_eq] at x3
      omega
    have e5 : ∀ c, hI (gdR h2) 5 c = if c < k ∧ rwB y c then nI (y c) else hI h 5 c := fun c => by
      rw [gd 5 (by decide), (b2.2 5 (by decide)).1, hI_sI_ne (by decide), hI_sI_ne (by decide), hI_sI_ne (by decide), a3]
    have z0 : ∀ q, hI (gdR h2) 0 q = if q = 12 then 0 else if q = 13 then nI (k - rwN y k) else hI h 0 q := fun q => by
      rw [gd 0 (by decide), (b2.2 0 (by decide)).1, hI_sI', hI_sI_ne (by decide), hI_sI', (a2.2 0 (by decide)).1]
      by_cases w : q = 12
      · rw [if_pos ⟨rfl, w⟩, if_pos w]
      · rw [if_neg (fun x => w x.2), if_neg w]
        by_cases v : q = 13
        · rw [if_pos ⟨rfl, v⟩, if_pos v]
        · rw [if_neg (fun x => v x.2), if_neg v]
    refine ⟨⟨fun j hj => ?_, ⟨fun j hj => ?_, ?_, fun s hs hm => ?_⟩, LW_Fr F (by decide) sm.2.2 (k86 189 (by decide)) (fun j hj => k86 j (by omega))⟩, IM_Fr F (by decide) (by decide) (by decide) (fun j h1 h2 => noE j (by omega) (by omega) (by omega) (by omega) (by omega)) im, ⟨0, by decide, ?_, ?_, fun i hi2 => absurd hi2 (by omega)⟩, ?_, RW_eq t22 rw0, CC_same2 (h := h) rw0 cc (k86 190 (by decide)) (mk_eq (fun j hj => k86 j ?_)) (mk_eq (fun j hj => k86 j ?_)) (mk_eq (fun j hj => k86 j ?_)) ⟨t22, fun j hj => ?_⟩, RC_bump rc hn ?_ (k84 28 (by decide) (by decide) (by decide) (by decide)), DR_eq (h := h) (by rw [hR_of t22]) (k84 51 (by decide) (by decide) (by decide) (by decide)) (g 113 (by decide) (by decide) (by decide) (by decide) (by decide)) (fun r hr => by have : 114 ≤ r := (rw0.2.2.1 r hr).1; exact g r (by omega) (by omega) (by omega) (by omega) (by omega)) dr, RM_eq (h := h) (by rw [hN_of t22]; omega) (by rw [hS_of t22]; omega) rm, WD_eq (g 89 (by decide) (by decide) (by decide) (by decide) (by decide)) wd⟩
    · by_cases z : 41 ≤ j ∧ j < 91
      · have ep : pl j = (4, j - 41) := by
          have := pl_kind (j - 41) (by omega)
          rwa [show 41 + (j - 41) = j by omega] at this
        have hs := StP_at sm.1 hj ep
        rw [ep]
        show hI (gdR h2) 5 (j - 41) = _
        rw [e5, e86]
        by_cases w : j - 41 < k ∧ rwB y (j - 41) = true
        · rw [if_pos w, if_pos ⟨z.1, by omega, w.2⟩]
        · rw [if_neg w, if_neg (fun x => w ⟨by omega, x.2.2⟩)]
          exact hs
      · have h4 : (pl j).1 ≠ 4 := pl_n4 j hj z
        have ho := pl_off j hj
        rw [k86 j z, g _ (by omega) (by omega) (by omega) (by omega) (by omega)]
        exact sm.1 j hj
    · by_cases z : 41 ≤ j ∧ j < 91
      · rw [e86]
        by_cases w : 41 ≤ j ∧ j < 41 + k ∧ rwB y (j - 41) = true
        · rw [if_pos w]
          unfold inR
          have := rj_kind (j - 41) (by omega)
          rw [show 41 + (j - 41) = j by omega] at this
          rw [this]
          have w2 := w.2.2
          unfold rwB at w2
          simp only [Bool.and_eq_true, decide_eq_true_eq] at w2
          exact wi_nI (b := 5) (by omega) (by decide)
        · rw [if_neg w]
          exact sm.2.1.1 j hj
      · rw [k86 j z]
        exact sm.2.1.1 j hj
    · rw [k86 190 (by decide), k86 189 (by decide)]
      exact sm.2.1.2.1
    · rw [k86 186 (by decide)] at hm
      rw [k86 _ (by omega)]
      exact sm.2.1.2.2 s hs hm
    · rw [gd 45 (by decide), (b2.2 45 (by decide)).1, hI_sI_ne (by decide), hI_sI', if_pos ⟨rfl, rfl⟩]
      rfl
    · rw [gdR_84, if_neg (by decide), if_neg (by decide), b4, if_pos rfl]
      rfl
    · unfold SS at ss ⊢
      rw [z0, z0, z0, if_pos rfl, if_neg (by decide), if_pos rfl, if_neg (by decide), if_neg (by decide), gdR_84, if_pos rfl, gdR_84, if_neg (by decide), if_neg (by decide), b4, if_neg (by decide), if_pos rfl, k84 11 (by decide) (by decide) (by decide) (by decide), g 83 (by decide) (by decide) (by decide) (by decide) (by decide), g 85 (by decide) (by decide) (by decide) (by decide) (by decide)]
      exact ⟨rfl, rfl, ss.2.2⟩
    · unfold pF at hj
      simp only [decide_eq_true_eq] at hj
      omega
    · unfold pS at hj
      simp only [Bool.or_eq_true, Bool.and_eq_true, decide_eq_true_eq] at hj
      omega
    · unfold pD at hj
      simp only [Bool.or_eq_true, Bool.and_eq_true, decide_eq_true_eq] at hj
      omega
    · have : j ≠ 0 ∧ j ≠ 5 ∧ j ≠ 45 ∧ j ≠ 84 ∧ j ≠ 86 := by
        rcases hj with hj | hj
        · omega
        · have : 114 ≤ j := hj
          omega
      exact ⟨g j this.1 this.2.1 this.2.2.1 this.2.2.2.1 this.2.2.2.2, gL j this.2.1 this.2.2.2.1 this.2.2.2.2⟩
    · rw [gdR_84, if_neg (by decide), if_pos rfl, b4, if_neg (by decide), if_neg (by decide)]
