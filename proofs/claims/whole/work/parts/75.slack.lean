/-! slacks -/
def stl (row K : Nat → Int32) (m : Nat) : Bool := decide (szI (row m) ≤ K 33)
def bS (row K : Nat → Int32) (m : Nat) : Bool := stl row K m && (decide (m = 0) || !stl row K (m - 1))
def slF (b : Nat → Bool) (i : Int32) : Nat → Nat → Nat → Nat ⊕ Nat
  | 0, _, n => .inr n
  | r + 1, m, n => if b m then (if nI n = i then .inl m else slF b i r (m + 1) (n + 1)) else slF b i r (m + 1) n
def slT (b : Nat → Bool) : Nat → Nat → Nat → Nat
  | 0, _, n => n
  | r + 1, m, n => if b m then slT b r (m + 1) (n + 1) else slT b r (m + 1) n
theorem slF_neg {b : Nat → Bool} {i : Int32} (hi : i < 0) : ∀ r m n, n + r < 2147483648 → slF b i r m n = .inr (slT b r m n)
  | 0, _, _, _ => rfl
  | r + 1, m, n, h => by
    unfold slF slT
    have hne : ¬ nI n = i := fun z => by
      rw [← z] at hi
      exact nI_pos (by omega) hi
    rw [if_neg hne, slF_neg hi r (m + 1) (n + 1) (by omega), slF_neg hi r (m + 1) n (by omega)]
    split <;> rfl
theorem slT_b (b : Nat → Bool) : ∀ r m n, slT b r m n ≤ n + r
  | 0, _, _ => Nat.le_refl _
  | r + 1, m, n => by
    unfold slT
    have h1 := slT_b b r (m + 1) (n + 1)
    have h2 := slT_b b r (m + 1) n
    split <;> omega
theorem slF_lt {b : Nat → Bool} {i : Int32} : ∀ r m n k, slF b i r m n = .inl k → m ≤ k ∧ k < m + r
  | 0, _, _, _, e => by cases e
  | r + 1, m, n, k, e => by
    unfold slF at e
    split at e
    · split at e
      · cases e; omega
      · have := slF_lt r (m + 1) (n + 1) k e
        omega
    · have := slF_lt r (m + 1) n k e
      omega
def slN (s : Nat → Bool) : Nat → Nat → Nat
  | 0, m => m
  | r + 1, m => if s m then slN s r (m + 1) else m
theorem slN_ge (s : Nat → Bool) : ∀ r m, m ≤ slN s r m
  | 0, _ => Nat.le_refl _
  | r + 1, m => by
    unfold slN
    have := slN_ge s r (m + 1)
    split <;> omega
def sgF (gt : Nat → Nat → Bool) (first : Nat) : Nat → Nat → Nat
  | 0, best => best
  | r + 1, best => if r + 720 < first then best else sgF gt first r (if gt r best then r else best)
def slA (row K : Nat → Int32) (i : Int32) : Nat ⊕ Nat := slF (bS row K) i 1440 0 0
/-- the class's -/
theorem p_still {K : Nat → Int32} {h : Hp} (st : StP K h 1) (v : Int32) : s_Water_isStill v h = some (if szI v ≤ mk pF K 33 then 1 else 0) := by
  have t3 : hI h 4 3 = mk pF K 33 := kf_term st 3 (by decide)
  unfold s_Water_isStill s_Water_isStill_21
  rw [ib_some _ (by decide) (by decide), show ix 3 = 3 by decide, t3, z_abs_eq]
  by_cases z : szI v ≤ mk pF K 33
  · rw [if_neg (Int32.not_lt.mpr z), if_pos z, bz_1]
  · rw [if_pos (Int32.not_le.mp z), if_neg z, bz_0]
theorem p_begins {K row : Nat → Int32} {h : Hp} {r m : Nat} (st : StP K h 1) (hr : nd h r 0 1440) (hrow : ∀ i, i < 1440 → hI h r i = row i) (hm : m < 1440) : s_Water_beginsSlack r (nI m) h = some (if bS row (mk pF K) m then 1 else 0) := by
  unfold s_Water_beginsSlack s_Water_beginsSlack_26 s_Water_beginsSlack_30 s_Water_beginsSlack_31 bS stl
  rw [ak_some hr, ln_of hr, ib_nI hm (by decide), show ix (nI m) = m from nI_clamp (by omega), hrow m hm, p_still st, Option.bind_some, bz_0, bz_1]
  by_cases z : szI (row m) ≤ mk pF K 33
  · rw [if_pos z, if_neg (by decide), decide_eq_true z, Bool.true_and]
    by_cases z0 : m = 0
    · subst z0
      rw [if_pos (show nI 0 = 0 from rfl), decide_eq_true rfl]
      rfl
    · obtain ⟨q, rfl⟩ : ∃ q, m = q + 1 := ⟨m - 1, by omega⟩
      rw [if_neg (nI_ne0 (by omega) (by omega)), ak_some hr, nI_pred, ib_nI (by omega) (by decide), show ix (nI q) = q from nI_clamp (by omega), hrow q (by omega), p_still st, Option.bind_some, decide_eq_false z0, Nat.add_sub_cancel, Bool.false_or]
      by_cases z1 : szI (row q) ≤ mk pF K 33
      · rw [if_pos z1, if_neg (by decide), decide_eq_true z1]; rfl
      · rw [if_neg z1, if_pos rfl, decide_eq_false z1]; rfl
  · rw [if_neg z, if_pos rfl, decide_eq_false z]; rfl
theorem p_slackStart {K row : Nat → Int32} {h : Hp} {r : Nat} (st : StP K h 1) (hr : nd h r 0 1440) (hrow : ∀ i, i < 1440 → hI h r i = row i) (i : Int32) : s_Water_slackStart r i h = some (match slA row (mk pF K) i with | .inl m => nI m | .inr _ => -1) := by
  have key : ∀ (q m n : Nat), m + q = 1440 → lp (fun q : Nat × Int32 × Int32 × Int32 => s_Water_slackStart_5 q.1 q.2.1 q.2.2.1 q.2.2.2 h) (r, i, nI n, nI m) = some (match slF (bS row (mk pF K)) i q m n with | .inl m => nI m | .inr _ => -1) := by
    intro q
    induction q with
    | zero =>
      intro m n hm
      have hm : m = 1440 := by omega
      subst hm
      refine lp_inr ?_
      show s_Water_slackStart_5 r i (nI n) (nI 1440) h = _
      unfold s_Water_slackStart_5
      rw [if_pos (show (1440 : Int32) ≤ nI 1440 by decide)]
      rfl
    | succ q ih =>
      intro m n hm
      have e5 : s_Water_slackStart_5 r i (nI n) (nI m) h = if bS row (mk pF K) m then (if nI n = i then some (.inr (nI m)) else some (.inl (r, i, nI (n + 1), nI (m + 1)))) else some (.inl (r, i, nI n, nI (m + 1))) := by
        unfold s_Water_slackStart_5 s_Water_slackStart_34
        rw [if_neg (by rw [show (1440 : Int32) = nI 1440 from rfl, nI_leI (by decide) (by omega)]; omega), p_begins st hr hrow (by omega), Option.bind_some, nI_1, nI_1]
        cases bS row (mk pF K) m with
        | true => rfl
        | false => rfl
      unfold slF
      by_cases hb : bS row (mk pF K) m = true
      · rw [if_pos hb] at e5 ⊢
        by_cases hn : nI n = i
        · rw [if_pos hn] at e5 ⊢
          exact lp_inr e5
        · rw [if_neg hn] at e5 ⊢
          rw [lp_inl e5]
          exact ih (m + 1) (n + 1) (by omega)
      · rw [if_neg hb] at e5 ⊢
        rw [lp_inl e5]
        exact ih (m + 1) n (by omega)
  exact key 1440 0 0 (by decide)
theorem p_slacksOf {K row : Nat → Int32} {h : Hp} {r : Nat} (st : StP K h 1) (hr : nd h r 0 1440) (hrow : ∀ i, i < 1440 → hI h r i = row i) : s_Water_slacksOf r h = some (nI (slT (bS row (mk pF K)) 1440 0 0)) := by
  have key : ∀ (q m n : Nat), m + q = 1440 → lp (fun q : Nat × Int32 × Int32 => s_Water_slacksOf_4 q.1 q.2.1 q.2.2 h) (r, nI n, nI m) = some (nI (slT (bS row (mk pF K)) q m n)) := by
    intro q
    induction q with
    | zero =>
      intro m n hm
      have hm : m = 1440 := by omega
      subst hm
      refine lp_inr ?_
      show s_Water_slacksOf_4 r (nI n) (nI 1440) h = _
      unfold s_Water_slacksOf_4
      rw [if_pos (show (1440 : Int32) ≤ nI 1440 by decide)]
      rfl
    | succ q ih =>
      intro m n hm
      have e5 : s_Water_slacksOf_4 r (nI n) (nI m) h = if bS row (mk pF K) m then some (.inl (r, nI (n + 1), nI (m + 1))) else some (.inl (r, nI n, nI (m + 1))) := by
        unfold s_Water_slacksOf_4 s_Water_slacksOf_23
        rw [if_neg (by rw [show (1440 : Int32) = nI 1440 from rfl, nI_leI (by decide) (by omega)]; omega), p_begins st hr hrow (by omega), Option.bind_some, nI_1, nI_1]
        cases bS row (mk pF K) m with
        | true => rfl
        | false => rfl
      unfold slT
      by_cases hb : bS row (mk pF K) m = true
      · rw [if_pos hb] at e5 ⊢
        rw [lp_inl e5]
        exact ih (m + 1) (n + 1) (by omega)
      · rw [if_neg hb] at e5 ⊢
        rw [lp_inl e5]
        exact ih (m + 1) n (by omega)
  exact key 1440 0 0 (by decide)
theorem p_slackLen {K row : Nat → Int32} {h : Hp} {r first : Nat} (st : StP K h 1) (hr : nd h r 0 1440) (hrow : ∀ i, i < 1440 → hI h r i = row i) (hf : first < 1440) : s_Water_slackLength r (nI first) h = some (nI (slN (stl row (mk pF K)) (1440 - first) first - first)) := by
  have key : ∀ (q l : Nat), first + l + q = 1440 → lp (fun q : Nat × Int32 × Int32 => s_Water_slackLength_2 q.1 q.2.1 q.2.2 h) (r, nI first, nI l) = some (nI (slN (stl row (mk pF K)) q (first + l) - first)) := by
    intro q
    induction q with
    | zero =>
      intro l hm
      refine lp_inr ?_
      show s_Water_slackLength_2 r (nI first) (nI l) h = _
      unfold s_Water_slackLength_2 s_Water_slackLength_29
      rw [nI_add, if_pos (by rw [show (1440 : Int32) = nI 1440 from rfl, nI_leI (by decide) (by omega)]; omega)]
      show some (Sum.inr (nI l)) = some (Sum.inr (nI (first + l - first)))
      rw [Nat.add_sub_cancel_left]
    | succ q ih =>
      intro l hm
      have e5 : s_Water_slackLength_2 r (nI first) (nI l) h = if stl row (mk pF K) (first + l) then some (.inl (r, nI first, nI (l + 1))) else some (.inr (nI l)) := by
        unfold s_Water_slackLength_2 s_Water_slackLength_29 stl
        rw [nI_add, if_neg (by rw [show (1440 : Int32) = nI 1440 from rfl, nI_leI (by decide) (by omega)]; omega), ak_some hr, ln_of hr, ib_nI (by omega) (by decide), show ix (nI (first + l)) = first + l from nI_clamp (by omega), hrow _ (by omega), p_still st, Option.bind_some, nI_1]
        by_cases z : szI (row (first + l)) ≤ mk pF K 33
        · rw [if_pos z, decide_eq_true z]; rfl
        · rw [if_neg z, decide_eq_false z]; rfl
      unfold slN
      by_cases hb : stl row (mk pF K) (first + l) = true
      · rw [if_pos hb] at e5 ⊢
        rw [lp_inl e5]
        exact ih (l + 1) (by omega)
      · rw [if_neg hb] at e5 ⊢
        rw [Nat.add_sub_cancel_left]
        exact lp_inr e5
  exact key (1440 - first) 0 (by omega)
def gtL (K : Nat → Int32) (a b : Nat) : Bool := !decide (lv0 K a ≤ lv0 K b)
theorem lv0_td {K : Nat → Int32} (rg : Rg K) {a b : Nat} (ha : a < 1440) (hb : b < 1440) : lv0 (mk pF K) a ≤ lv0 (mk pF K) b ↔ td (mk pF K) 0 (nI a) 4 ≤ td (mk pF K) 0 (nI b) 4 := by
  have tA := td_b rg (e := 0) (by decide) ha 4 (by decide)
  have tB := td_b rg (e := 0) (by decide) hb 4 (by decide)
  obtain ⟨a1, a2⟩ := Rg_int rg (j := 3 * 0 + 1) (by decide) (rj_sea 0 (by decide) 1 (by decide))
  obtain ⟨b1, b2⟩ := Rg_int rg (j := 3 * 0 + 2) (by decide) (rj_sea 0 (by decide) 2 (by decide))
  have n1 : na (mk pF K (3 * 0 + 1)) ≤ 3 := by rw [kf_eq (by decide)]; exact na_le a1 a2 (by decide) (by decide)
  have n2 : na (mk pF K (3 * 0 + 2)) ≤ 5 := by rw [kf_eq (by decide)]; exact na_le b1 b2 (by decide) (by decide)
  have m1 := (na_mul n1 (kf_glass rg) (by decide)).2
  have m2 := (na_mul n2 (kf_wind rg) (by decide)).2
  have x1 := na_add tA m1 (by decide)
  have x2 := na_add tB m1 (by decide)
  have y1 := na_add x1.2 m2 (by decide)
  have y2 := na_add x2.2 m2 (by decide)
  unfold lv0 Lv
  rw [Int32.le_iff_toInt_le, Int32.le_iff_toInt_le, y1.1, y2.1, x1.1, x2.1]
  omega
theorem p_since {K : Nat → Int32} {h : Hp} {first : Nat} (rg : Rg K) (td_ : TdOK (mk pF K) h) (hf : first < 1440) : s_Water_sinceGreatest (nI first) h = some (nI (first - sgF (gtL (mk pF K)) first first first)) := by
  have key : ∀ (q best : Nat), q ≤ first → best ≤ first → q ≤ best → lp (fun q : Int32 × Int32 × Int32 => s_Water_sinceGreatest_6 q.1 q.2.1 q.2.2 h) (nI first, nI best, nI q - 1) = some (nI (first - sgF (gtL (mk pF K)) first q best)) := by
    intro q
    induction q with
    | zero =>
      intro best h1 h2 h3
      refine lp_inr ?_
      show s_Water_sinceGreatest_6 (nI first) (nI best) (nI 0 - 1) h = _
      unfold s_Water_sinceGreatest_6 s_Water_sinceGreatest_42
      rw [if_pos (show nI 0 - 1 < 0 by decide), nI_sub h2]
      rfl
    | succ q ih =>
      intro best h1 h2 h3
      have z1 : nI q < nI first - 720 ↔ q + 720 < first := by
        rw [Int32.lt_iff_toInt_lt, nI_toInt (by omega), Int32.toInt_sub, nI_toInt (by omega), show (720 : Int32).toInt = 720 by decide, Int.bmod_eq_of_le (by omega) (by omega)]
        omega
      have e5 : s_Water_sinceGreatest_6 (nI first) (nI best) (nI (q + 1) - 1) h = if q + 720 < first then some (.inr (nI (first - best))) else some (.inl (nI first, nI (if gtL (mk pF K) q best then q else best), nI q - 1)) := by
        unfold s_Water_sinceGreatest_6 s_Water_sinceGreatest_42 s_Water_sinceGreatest_36
        rw [nI_pred, if_neg (nI_pos (by omega))]
        by_cases zz : q + 720 < first
        · rw [if_pos (z1.mpr zz), if_pos zz, nI_sub h2]
          rfl
        · rw [if_neg (fun w => zz (z1.mp w)), if_neg zz, ib_nI (by omega) (by decide), ib_nI (by omega) (by decide), show ix (nI q) = q from nI_clamp (by omega), show ix (nI best) = best from nI_clamp (by omega)]
          have ta : hI h 54 q = td (mk pF K) 0 (nI q) 4 := by
            have := td_ 0 q (by decide) (by omega)
            rwa [Nat.mul_zero, Nat.zero_add] at this
          have tb : hI h 54 best = td (mk pF K) 0 (nI best) 4 := by
            have := td_ 0 best (by decide) (by omega)
            rwa [Nat.mul_zero, Nat.zero_add] at this
          rw [ta, tb, Int32.sub_eq_add_neg]
          unfold gtL
          by_cases w : td (mk pF K) 0 (nI q) 4 ≤ td (mk pF K) 0 (nI best) 4
          · rw [if_pos w, decide_eq_true ((lv0_td rg (by omega) (by omega)).mpr w)]; rfl
          · rw [if_neg w, decide_eq_false (fun y => w ((lv0_td rg (by omega) (by omega)).mp y))]; rfl
      unfold sgF
      by_cases zz : q + 720 < first
      · rw [if_pos zz] at e5 ⊢
        exact lp_inr e5
      · rw [if_neg zz] at e5 ⊢
        rw [lp_inl e5]
        refine ih _ (by omega) ?_ ?_
        · split <;> omega
        · split <;> omega
  exact key first first (Nat.le_refl _) (Nat.le_refl _) (Nat.le_refl _)
/-- the reference's -/
theorem p_slackAt {τ : Nat → TF} {K row : Nat → Int32} {h : Hp} {r : Nat} (X : RX τ K h) (hr : nd h r 0 1440) (hrow : ∀ i, i < 1440 → hI h r i = row i) (i : Int32) : s_Mod_slackAt r i h = some (match slA row (mk pF K) i with | .inl m => nI m | .inr n => -1 - nI n) := by
  have t3 : s_Mod_term 3 h = some (mk pF K 33) := p_termK X (k := 3) (by decide)
  have key : ∀ (q m n : Nat), m + q = 1440 → lp (fun q : Nat × Int32 × Int32 × Int32 => s_Mod_slackAt_5 q.1 q.2.1 q.2.2.1 q.2.2.2 h) (r, i, nI n, nI m) = some (match slF (bS row (mk pF K)) i q m n with | .inl m => nI m | .inr n => -1 - nI n) := by
    intro q
    induction q with
    | zero =>
      intro m n hm
      have hm : m = 1440 := by omega
      subst hm
      refine lp_inr ?_
      show s_Mod_slackAt_5 r i (nI n) (nI 1440) h = _
      unfold s_Mod_slackAt_5
      rw [if_pos (show (1440 : Int32) ≤ nI 1440 by decide)]
      rfl
    | succ q ih =>
      intro m n hm
      have yes : s_Mod_slackAt_50 r i (nI n) (nI m) h = if nI n = i then some (.inr (nI m)) else some (.inl (r, i, nI (n + 1), nI (m + 1))) := by
        unfold s_Mod_slackAt_50 s_Mod_slackAt_55 s_Mod_slackAt_70 s_Mod_slackAt_81
        rw [if_neg (show ¬ (1 : Int32) = 0 by decide), if_neg (show ¬ (1 : Int32) = 0 by decide), nI_1, nI_1]
      have no : s_Mod_slackAt_54 r i (nI n) (nI m) h = some (.inl (r, i, nI n, nI (m + 1))) := by
        unfold s_Mod_slackAt_54 s_Mod_slackAt_55 s_Mod_slackAt_70 s_Mod_slackAt_81
        rw [if_pos rfl, if_pos rfl, nI_1, Int32.add_zero]
      have e5 : s_Mod_slackAt_5 r i (nI n) (nI m) h = if bS row (mk pF K) m then (if nI n = i then some (.inr (nI m)) else some (.inl (r, i, nI (n + 1), nI (m + 1)))) else some (.inl (r, i, nI n, nI (m + 1))) := by
        unfold s_Mod_slackAt_5
        rw [if_neg (by rw [show (1440 : Int32) = nI 1440 from rfl, nI_leI (by decide) (by omega)]; omega), ak_some hr, ln_of hr, ib_nI (by omega) (by decide), show ix (nI m) = m from nI_clamp (by omega), hrow m (by omega), p_size, Option.bind_some, t3, Option.bind_some, yes, no]
        unfold bS stl
        by_cases z : szI (row m) ≤ mk pF K 33
        · rw [if_neg (Int32.not_lt.mpr z), decide_eq_true z, Bool.true_and]
          by_cases z0 : m = 0
          · rw [if_pos (by rw [z0]; rfl), decide_eq_true z0]
            rfl
          · obtain ⟨p, rfl⟩ : ∃ p, m = p + 1 := ⟨m - 1, by omega⟩
            rw [if_neg (nI_ne0 (by omega) (by omega)), ak_some hr, nI_pred, ib_nI (by omega) (by decide), show ix (nI p) = p from nI_clamp (by omega), hrow p (by omega), p_size, Option.bind_some, Option.bind_some, decide_eq_false z0, Nat.add_sub_cancel, Bool.false_or]
            by_cases z1 : szI (row p) ≤ mk pF K 33
            · rw [if_pos z1, decide_eq_true z1]; rfl
            · rw [if_neg z1, decide_eq_false z1]; rfl
        · rw [if_pos (Int32.not_le.mp z), decide_eq_false z]; rfl
      unfold slF
      by_cases hb : bS row (mk pF K) m = true
      · rw [if_pos hb] at e5 ⊢
        by_cases hn : nI n = i
        · rw [if_pos hn] at e5 ⊢
          exact lp_inr e5
        · rw [if_neg hn] at e5 ⊢
          rw [lp_inl e5]
          exact ih (m + 1) (n + 1) (by omega)
      · rw [if_neg hb] at e5 ⊢
        rw [lp_inl e5]
        exact ih (m + 1) n (by omega)
  exact key 1440 0 0 (by decide)
