/-! right, mark -/
def rgM (K row : Nat → Int32) (a b m : Nat) : Nat := match la K (m + 1) with
  | none => 0
  | some q => if (decide (a ≤ m - q) && decide (m - q ≤ b)) = decide (szI (row m) ≤ K 33) then 1 else 0
def rgT (K row : Nat → Int32) (a b : Nat) : Nat := smN (rgM K row a b) 1440
theorem rgM_b (K row : Nat → Int32) (a b m : Nat) : rgM K row a b m ≤ 1 := by
  unfold rgM
  cases la K (m + 1) with
  | none => exact Nat.zero_le _
  | some q =>
    show (if (decide (a ≤ m - q) && decide (m - q ≤ b)) = decide (szI (row m) ≤ K 33) then 1 else 0) ≤ 1
    split <;> decide
theorem rgM_in (K row : Nat → Int32) {a b : Nat} (hab : a ≤ b) (m : Nat) : (rgM K row a b m : Int) = rlR K row m + rlW K row (b + 1) m - rlW K row a m := by
  unfold rgM rlR rlW
  cases la K (m + 1) with
  | none => rfl
  | some q =>
    show (((if (decide (a ≤ m - q) && decide (m - q ≤ b)) = decide (szI (row m) ≤ K 33) then 1 else 0 : Nat)) : Int) = ((if szI (row m) ≤ K 33 then 0 else 1 : Nat) : Int) + (if m - q < b + 1 then (if szI (row m) ≤ K 33 then 1 else -1) else 0) - (if m - q < a then (if szI (row m) ≤ K 33 then 1 else -1) else 0)
    by_cases z : szI (row m) ≤ K 33
    · rw [if_pos z, if_pos z, decide_eq_true z]
      by_cases y1 : m - q < a
      · rw [if_pos y1, if_pos (show m - q < b + 1 by omega), decide_eq_false (p := a ≤ m - q) (by omega)]; rfl
      · by_cases y2 : m - q ≤ b
        · rw [if_neg y1, if_pos (show m - q < b + 1 by omega), decide_eq_true (p := a ≤ m - q) (by omega), decide_eq_true y2]; rfl
        · rw [if_neg y1, if_neg (show ¬ m - q < b + 1 by omega), decide_eq_true (p := a ≤ m - q) (by omega), decide_eq_false y2]; rfl
    · rw [if_neg z, if_neg z, decide_eq_false z]
      by_cases y1 : m - q < a
      · rw [if_pos y1, if_pos (show m - q < b + 1 by omega), decide_eq_false (p := a ≤ m - q) (by omega)]; rfl
      · by_cases y2 : m - q ≤ b
        · rw [if_neg y1, if_pos (show m - q < b + 1 by omega), decide_eq_true (p := a ≤ m - q) (by omega), decide_eq_true y2]; rfl
        · rw [if_neg y1, if_neg (show ¬ m - q < b + 1 by omega), decide_eq_true (p := a ≤ m - q) (by omega), decide_eq_false y2]; rfl
theorem rgM_out (K row : Nat → Int32) {a b : Nat} (hab : b < a) (m : Nat) : rgM K row a b m = rlR K row m := by
  unfold rgM rlR
  cases la K (m + 1) with
  | none => rfl
  | some q =>
    show (if (decide (a ≤ m - q) && decide (m - q ≤ b)) = decide (szI (row m) ≤ K 33) then 1 else 0) = if szI (row m) ≤ K 33 then 0 else 1
    have : (decide (a ≤ m - q) && decide (m - q ≤ b)) = false := by
      by_cases y : a ≤ m - q
      · rw [decide_eq_false (p := m - q ≤ b) (by omega), Bool.and_false]
      · rw [decide_eq_false y]; rfl
    rw [this]
    by_cases z : szI (row m) ≤ K 33
    · rw [if_pos z, decide_eq_true z]; rfl
    · rw [if_neg z, decide_eq_false z]; rfl
theorem sm_in (K row : Nat → Int32) {a b : Nat} (hab : a ≤ b) : ∀ n, (smN (rgM K row a b) n : Int) = smN (rlR K row) n + smZ (rlW K row (b + 1)) n - smZ (rlW K row a) n
  | 0 => rfl
  | n + 1 => by
    unfold smN smZ
    have h1 := sm_in K row hab n
    have h2 := rgM_in K row hab n
    omega
theorem sm_out (K row : Nat → Int32) {a b : Nat} (hab : b < a) : ∀ n, smN (rgM K row a b) n = smN (rlR K row) n
  | 0 => rfl
  | n + 1 => by
    unfold smN
    rw [sm_out K row hab n, rgM_out K row hab n]
theorem p_rightC {T : TF} {K : Nat → Int32} {h : Hp} (R : ruOK T (mk pF K) h) {a b : Nat} (ha : a < 1440) (hb : b < 1440) : s_Rule_rightBy (nI a) (nI b) h = some (nI (rgT (mk pF K) (td0 T (mk pF K)) a b)) := by
  obtain ⟨r1, r2, r3⟩ := R
  unfold s_Rule_rightBy s_Rule_rightBy_32 rgT
  have nb := smN_b (rlR_b (mk pF K) (td0 T (mk pF K))) 1440
  have gb := smN_b (rgM_b (mk pF K) (td0 T (mk pF K)) a b) 1440
  by_cases z : a ≤ b
  · rw [if_pos (by rw [nI_leI (by omega) (by omega)]; exact z), nI_1, ib_nI (by omega) (by decide), ib_nI (by omega) (by decide), show ix (nI (b + 1)) = b + 1 from nI_clamp (by omega), show ix (nI a) = a from nI_clamp (by omega), r2]
    congr 1
    apply Int32.toInt_inj.mp
    have b1 := smZ_b (rlW_b (mk pF K) (td0 T (mk pF K)) (b + 1)) 1440
    have b2 := smZ_b (rlW_b (mk pF K) (td0 T (mk pF K)) a) 1440
    have e := sm_in (mk pF K) (td0 T (mk pF K)) z 1440
    rw [Int32.toInt_sub, Int32.toInt_add, nI_toInt (by omega), r3 (b + 1) (by omega), r3 a (by omega), nI_toInt (by omega), Int.bmod_eq_of_le (n := (smN (rlR (mk pF K) (td0 T (mk pF K))) 1440 : Int) + smZ (rlW (mk pF K) (td0 T (mk pF K)) (b + 1)) 1440) (by omega) (by omega), Int.bmod_eq_of_le (by omega) (by omega)]
    exact e.symm
  · rw [if_neg (by rw [nI_leI (by omega) (by omega)]; exact z), r2, sm_out (mk pF K) (td0 T (mk pF K)) (by omega) 1440]
def mkN (f : Nat → Nat) : Nat → Nat
  | 0 => 0
  | a + 1 => if f (mkN f a) < f (a + 1) then a + 1 else mkN f a
theorem mkN_le (f : Nat → Nat) : ∀ a, mkN f a ≤ a
  | 0 => Nat.le_refl _
  | a + 1 => by
    unfold mkN
    have := mkN_le f a
    split <;> omega
def aRight (x1 x2 : Int32) (T : TF) (K : Nat → Int32) : Int32 := if wi x1 0 1439 = 0 then -1 else if wi x2 0 1439 = 0 then -1 else nI (rgT (mk pF K) (td0 T (mk pF K)) (ix x1) (ix x2))
def aMark (x1 : Int32) (T : TF) (K : Nat → Int32) : Int32 := if wi x1 0 720 = 0 then -1 else if (la (mk pF K) 1440).isSome then nI (mkN (fun a => rgT (mk pF K) (td0 T (mk pF K)) a (a + ix x1)) 719) else -1
theorem sRu_sC (j : Nat) (h : sC j = false) : sRu j = false := by
  unfold sC at h
  simp only [Bool.and_eq_false_iff, decide_eq_false_iff_not] at h
  exact sRu_no (by omega) (by omega)
theorem C_right {τ : Nat → TF} {K : Nat → Int32} {h : Hp} (x1 x2 : Int32) (X : QX τ K h) : ∃ h1, s_Race_right x1 x2 h = some (aRight x1 x2 (tin τ K) K, h1) ∧ CQ (tin τ K) K h h1 := by
  unfold s_Race_right s_Race_right_14 aRight
  rw [p_isMinuteC, Option.bind_some]
  by_cases h1 : wi x1 0 1439 = 0
  · rw [if_pos h1, if_pos h1]; exact ⟨h, rfl, QX_CQ X (eqO_refl _ _) X⟩
  rw [if_neg h1, if_neg h1, p_isMinuteC, Option.bind_some]
  by_cases h2 : wi x2 0 1439 = 0
  · rw [if_pos h2, if_pos h2]; exact ⟨h, rfl, QX_CQ X (eqO_refl _ _) X⟩
  rw [if_neg h2, if_neg h2]
  obtain ⟨a, ha, rfl⟩ := wi_nat (b := 1439) (by decide) (wi_n0 h1)
  obtain ⟨b, hb, rfl⟩ := wi_nat (b := 1439) (by decide) (wi_n0 h2)
  obtain ⟨g, a1, a2, a3⟩ := p_todayX X
  obtain ⟨g2, b1, b2, b3, b4⟩ := p_rule a3
  rw [a1, Option.bind_some, b1, Option.bind_some, p_rightC b4 (by omega) (by omega), Option.bind_some, show ix (nI a) = a from nI_clamp (by omega), show ix (nI b) = b from nI_clamp (by omega)]
  exact ⟨g2, rfl, QX_CQ X (eqO_trans a2 (eqO_mono b2 sRu_sC)) b3.1⟩
theorem C_mark {τ : Nat → TF} {K : Nat → Int32} {h : Hp} (x1 : Int32) (X : QX τ K h) : ∃ h1, s_Race_mark x1 h = some (aMark x1 (tin τ K) K, h1) ∧ CQ (tin τ K) K h h1 := by
  unfold s_Race_mark aMark
  rw [p_within, Option.bind_some]
  by_cases h1 : wi x1 0 720 = 0
  · rw [if_pos h1, if_pos h1]; exact ⟨h, rfl, QX_CQ X (eqO_refl _ _) X⟩
  rw [if_neg h1, if_neg h1]
  obtain ⟨w, hw, rfl⟩ := wi_nat (b := 720) (by decide) (wi_n0 h1)
  obtain ⟨g, a1, a2, a3⟩ := p_todayX X
  obtain ⟨g2, b1, b2, b3, b4⟩ := p_rule a3
  rw [a1, Option.bind_some, b1, Option.bind_some, show ix (nI w) = w from nI_clamp (by omega)]
  refine ⟨g2, ?_, QX_CQ X (eqO_trans a2 (eqO_mono b2 sRu_sC)) b3.1⟩
  unfold s_Rule_bestFor
  rw [b4.1]
  cases hl : la (mk pF K) 1440 with
  | none =>
    show ((if (0 : Int32) = 0 then some (-1) else _).bind _) = _
    rw [if_pos rfl]
    rfl
  | some q0 =>
    show ((if (1 : Int32) = 0 then some (-1) else lp (fun q : Int32 × Int32 × Int32 => s_Rule_bestFor_13 q.1 q.2.1 q.2.2 g2) (nI w, nI 0, nI 1)).bind _) = _
    rw [if_neg (by decide)]
    have key : ∀ (q a : Nat), a + q = 719 → lp (fun q : Int32 × Int32 × Int32 => s_Rule_bestFor_13 q.1 q.2.1 q.2.2 g2) (nI w, nI (mkN (fun a => rgT (mk pF K) (td0 (tin τ K) (mk pF K)) a (a + w)) a), nI (a + 1)) = some (nI (mkN (fun a => rgT (mk pF K) (td0 (tin τ K) (mk pF K)) a (a + w)) 719)) := by
      intro q
      induction q with
      | zero =>
        intro a ha
        have ha : a = 719 := by omega
        subst ha
        refine lp_inr ?_
        show s_Rule_bestFor_13 (nI w) _ (nI 720) g2 = _
        unfold s_Rule_bestFor_13
        rw [if_pos (show (720 : Int32) ≤ nI 720 by decide)]
      | succ q ih =>
        intro a ha
        have ml := mkN_le (fun a => rgT (mk pF K) (td0 (tin τ K) (mk pF K)) a (a + w)) a
        have F : ∀ a, rgT (mk pF K) (td0 (tin τ K) (mk pF K)) a (a + w) ≤ 1440 := fun a => smN_b (rgM_b (mk pF K) (td0 (tin τ K) (mk pF K)) a (a + w)) 1440
        have g1 := F (a + 1)
        have g3 := F (mkN (fun a => rgT (mk pF K) (td0 (tin τ K) (mk pF K)) a (a + w)) a)
        rw [lp_inl (s' := (nI w, nI (mkN (fun a => rgT (mk pF K) (td0 (tin τ K) (mk pF K)) a (a + w)) (a + 1)), nI (a + 1 + 1))) ?_]
        · exact ih (a + 1) (by omega)
        · show s_Rule_bestFor_13 (nI w) (nI (mkN (fun a => rgT (mk pF K) (td0 (tin τ K) (mk pF K)) a (a + w)) a)) (nI (a + 1)) g2 = _
          unfold s_Rule_bestFor_13 s_Rule_bestFor_41
          rw [if_neg (by rw [show (720 : Int32) = nI 720 from rfl, nI_leI (by decide) (by omega)]; omega), nI_add, nI_add, p_rightC b4 (by omega) (by omega), Option.bind_some, p_rightC b4 (by omega) (by omega), Option.bind_some, nI_1]
          have eN : mkN (fun a => rgT (mk pF K) (td0 (tin τ K) (mk pF K)) a (a + w)) (a + 1) = if rgT (mk pF K) (td0 (tin τ K) (mk pF K)) (mkN (fun a => rgT (mk pF K) (td0 (tin τ K) (mk pF K)) a (a + w)) a) (mkN (fun a => rgT (mk pF K) (td0 (tin τ K) (mk pF K)) a (a + w)) a + w) < rgT (mk pF K) (td0 (tin τ K) (mk pF K)) (a + 1) (a + 1 + w) then a + 1 else mkN (fun a => rgT (mk pF K) (td0 (tin τ K) (mk pF K)) a (a + w)) a := rfl
          rw [eN]
          by_cases z : rgT (mk pF K) (td0 (tin τ K) (mk pF K)) (mkN (fun a => rgT (mk pF K) (td0 (tin τ K) (mk pF K)) a (a + w)) a) (mkN (fun a => rgT (mk pF K) (td0 (tin τ K) (mk pF K)) a (a + w)) a + w) < rgT (mk pF K) (td0 (tin τ K) (mk pF K)) (a + 1) (a + 1 + w)
          · rw [if_pos z, if_neg (by rw [nI_leI (by omega) (by omega)]; omega)]
          · rw [if_neg z, if_pos (by rw [nI_leI (by omega) (by omega)]; omega)]
    have k0 : lp (fun q : Int32 × Int32 × Int32 => s_Rule_bestFor_13 q.1 q.2.1 q.2.2 g2) (nI w, nI 0, nI 1) = _ := key 719 0 (by decide)
    rw [k0, Option.bind_some]
    rfl
/-- the reference's -/
def sHi (j : Nat) : Bool := decide (j = 109) || decide (j = 110)
theorem sHi_no {j : Nat} (h1 : j ≠ 109) (h2 : j ≠ 110) : sHi j = false := by
  unfold sHi
  rw [decide_eq_false h1, decide_eq_false h2]
  rfl
theorem p_isHighR {K : Nat → Int32} {h : Hp} (hl : ∀ m, m < 1440 → hI h 110 m = lv0 K m) {m : Nat} (hm : m < 1440) : s_Mod_isHigh (nI m) h = some (if isH K m then 1 else 0) := by
  rw [isH_e]
  unfold s_Mod_isHigh
  rw [p_lies, Option.bind_some]
  by_cases z : 60 ≤ m ∧ m + 60 < 1440
  · have w : wi (nI m) 60 1379 = 1 := wi_1.mpr ⟨by rw [show (60 : Int32) = nI 60 from rfl, nI_leI (by decide) (by omega)]; exact z.1, by rw [show (1379 : Int32) = nI 1379 from rfl, nI_leI (by omega) (by decide)]; omega⟩
    rw [w, if_neg (by decide), decide_eq_true z.1, decide_eq_true z.2, Bool.true_and, Bool.true_and]
    have key : ∀ (q k : Nat) (v : Bool), k + q = 60 → lp (fun q : Int32 × Int32 × Int32 => s_Mod_isHigh_18 q.1 q.2.1 q.2.2 h) (nI m, (if v then 1 else 0), nI (k + 1)) = some (if v && hiA (hiP K m) q k then 1 else 0) := by
      intro q
      induction q with
      | zero =>
        intro k v hk
        have hk : k = 60 := by omega
        subst hk
        refine lp_inr ?_
        show s_Mod_isHigh_18 (nI m) (if v then 1 else 0) (nI 61) h = _
        unfold s_Mod_isHigh_18
        rw [if_pos (show (60 : Int32) < nI 61 by decide)]
        cases v with
        | true => rfl
        | false => rfl
      | succ q ih =>
        intro k v hk
        rw [lp_inl (s' := (nI m, (if (v && hiP K m k) then 1 else 0), nI (k + 1 + 1))) ?_]
        · rw [ih (k + 1) (v && hiP K m k) (by omega), hiA, Bool.and_assoc]
        · show s_Mod_isHigh_18 (nI m) (if v then 1 else 0) (nI (k + 1)) h = _
          unfold s_Mod_isHigh_18 s_Mod_isHigh_66 s_Mod_isHigh_67
          rw [if_neg (by rw [show (60 : Int32) = nI 60 from rfl, nI_ltI (by decide) (by omega)]; omega), nI_1]
          cases v with
          | false => rfl
          | true =>
            show (if (1 : Int32) = 0 then _ else _) = _
            rw [if_neg (by decide), nI_sub (by omega), nI_add, ib_nI hm (by decide), ib_nI (by omega) (by decide), ib_nI hm (by decide), ib_nI (by omega) (by decide), show ix (nI m) = m from nI_clamp (by omega), show ix (nI (m - (k + 1))) = m - (k + 1) from nI_clamp (by omega), show ix (nI (m + (k + 1))) = m + (k + 1) from nI_clamp (by omega), hl _ hm, hl _ (by omega), hl _ (by omega), Bool.true_and]
            unfold hiP
            by_cases y1 : lv0 K (m - (k + 1)) < lv0 K m
            · rw [if_neg (Int32.not_le.mpr y1), decide_eq_true y1, Bool.true_and]
              by_cases y2 : lv0 K (m + (k + 1)) ≤ lv0 K m
              · rw [if_neg (Int32.not_lt.mpr y2), decide_eq_true y2]; rfl
              · rw [if_pos (Int32.not_le.mp y2), decide_eq_false y2]; rfl
            · rw [if_pos (Int32.not_lt.mp y1), decide_eq_false y1]; rfl
    exact key 60 0 true (by decide)
  · have w : wi (nI m) 60 1379 = 0 := by
      rcases wi_or (nI m) 60 1379 with x | x
      · exact x
      · exfalso
        obtain ⟨x1, x2⟩ := wi_1.mp x
        rw [show (60 : Int32) = nI 60 from rfl, nI_leI (by decide) (by omega)] at x1
        rw [show (1379 : Int32) = nI 1379 from rfl, nI_leI (by omega) (by decide)] at x2
        omega
    rw [w, if_pos rfl]
    have : (decide (60 ≤ m) && decide (m + 60 < 1440)) = false := by
      by_cases y : 60 ≤ m
      · rw [decide_eq_false (p := m + 60 < 1440) (by omega), Bool.and_false]
      · rw [decide_eq_false y]; rfl
    rw [this]
    rfl
def snV (K : Nat → Int32) (m : Nat) : Int32 := match la K (m + 1) with
  | none => -1
  | some q => nI (m - q)
def laV (o : Option Nat) : Int32 := match o with
  | none => -1
  | some q => nI q
theorem p_highs {τ : Nat → TF} {K : Nat → Int32} {n : Nat} {h : Hp} (X : RX τ K h) (rc : RC (tin τ K) K n h) : ∃ h2, s_Mod_highs h = some (if (la (mk pF K) 1440).isSome then 1 else 0, h2) ∧ RE (tin τ K) K n h h2 ∧ LX τ K h2 ∧ ∀ m, m < 1440 → hI h2 109 m = snV (mk pF K) m := by
  obtain ⟨g, b1, b2, b3, b4, b5, b6⟩ := p_looks X rc
  have second : ∀ (q m : Nat) (g2 : Hp), m + q = 1440 → eqO sHi g g2 → (∀ i, i < 1440 → hI g2 110 i = lv0 (mk pF K) i) → (∀ i, i < m → hI g2 109 i = snV (mk pF K) i) → ∃ g3, lp (fun q : Int32 × Int32 × Hp => s_Mod_highs_35 q.1 q.2.1 q.2.2) (laV (la (mk pF K) m), nI m, g2) = some (if (la (mk pF K) 1440).isSome then 1 else 0, g3) ∧ eqO sHi g g3 ∧ ∀ i, i < 1440 → hI g3 109 i = snV (mk pF K) i := by
    intro q
    induction q with
    | zero =>
      intro m g2 hm E e1 e2
      have hm : m = 1440 := by omega
      subst hm
      refine ⟨g2, lp_inr ?_, E, e2⟩
      show s_Mod_highs_35 (laV (la (mk pF K) 1440)) (nI 1440) g2 = _
      unfold s_Mod_highs_35 s_Mod_highs_86
      rw [if_pos (show (1440 : Int32) ≤ nI 1440 by decide)]
      cases hl : la (mk pF K) 1440 with
      | none =>
        show (if (-1 : Int32) = -1 then _ else _) = _
        rw [if_pos rfl]
        rfl
      | some z =>
        have := la_lt _ _ _ hl
        show (if nI z = -1 then _ else _) = _
        rw [if_neg (fun y => by
          have : nI z < 0 := by rw [y]; decide
          exact nI_pos (by omega) this)]
        rfl
    | succ q ih =>
      intro m g2 hm E e1 e2
      have hh := p_isHighR e1 (show m < 1440 by omega)
      have e52 : ∀ o : Option Nat, o = la (mk pF K) (m + 1) → s_Mod_highs_52 (laV o) (nI m) g2 = some (.inl (laV (la (mk pF K) (m + 1)), nI (m + 1), sI g2 109 m (snV (mk pF K) m))) := by
        intro o ho
        subst ho
        unfold s_Mod_highs_52 s_Mod_highs_69 snV
        rw [ib_nI (by omega) (by decide), ib_nI (by omega) (by decide), show ix (nI m) = m from nI_clamp (by omega), nI_1]
        cases hl : la (mk pF K) (m + 1) with
        | none =>
          show (if (-1 : Int32) = -1 then _ else _) = _
          rw [if_pos rfl]
        | some z =>
          have := la_lt _ _ _ hl
          show (if nI z = -1 then _ else some (Sum.inl (nI z, nI (m + 1), sI g2 109 m (nI m - nI z)))) = _
          rw [if_neg (fun y => by
            have : nI z < 0 := by rw [y]; decide
            exact nI_pos (by omega) this), nI_sub (by omega)]
          rfl
      obtain ⟨g3, a1, a2, a3⟩ := ih (m + 1) (sI g2 109 m (snV (mk pF K) m)) (by omega) (eqO_sI E (by decide)) (fun i hi => by rw [hI_sI_ne (by decide)]; exact e1 i hi) (fun i hi => by
        rw [hI_sI']
        by_cases z : i = m
        · rw [if_pos ⟨rfl, z⟩, z]
        · rw [if_neg (fun y => z y.2)]; exact e2 i (by omega))
      refine ⟨g3, ?_, a2, a3⟩
      rw [lp_inl (s' := (laV (la (mk pF K) (m + 1)), nI (m + 1), sI g2 109 m (snV (mk pF K) m))) ?_]
      · exact a1
      · show s_Mod_highs_35 (laV (la (mk pF K) m)) (nI m) g2 = _
        unfold s_Mod_highs_35
        rw [if_neg (by rw [show (1440 : Int32) = nI 1440 from rfl, nI_leI (by decide) (by omega)]; omega), hh, Option.bind_some]
        cases hz : isH (mk pF K) m with
        | true =>
          show (if (1 : Int32) = 0 then _ else s_Mod_highs_52 (laV (some m)) (nI m) g2) = _
          rw [if_neg (by decide)]
          exact e52 (some m) (by rw [la, if_pos hz])
        | false =>
          show (if (0 : Int32) = 0 then _ else _) = _
          rw [if_pos rfl]
          exact e52 (la (mk pF K) m) (by rw [la, if_neg (by rw [hz]; decide)])
  have first : ∀ (q m : Nat) (g2 : Hp), m + q = 1440 → eqO sHi g g2 → (∀ i, i < m → hI g2 110 i = lv0 (mk pF K) i) → ∃ g3, lp (fun q : Int32 × Hp => s_Mod_highs_6 q.1 q.2) (nI m, g2) = some (if (la (mk pF K) 1440).isSome then 1 else 0, g3) ∧ eqO sHi g g3 ∧ ∀ i, i < 1440 → hI g3 109 i = snV (mk pF K) i := by
    intro q
    induction q with
    | zero =>
      intro m g2 hm E e1
      have hm : m = 1440 := by omega
      subst hm
      obtain ⟨g3, a1, a2⟩ := second 1440 0 g2 (by decide) E e1 (fun i hi => absurd hi (by omega))
      refine ⟨g3, lp_inr ?_, a2⟩
      show s_Mod_highs_6 (nI 1440) g2 = _
      unfold s_Mod_highs_6
      rw [if_pos (show (1440 : Int32) ≤ nI 1440 by decide)]
      have a1 : lp (fun q : Int32 × Int32 × Hp => s_Mod_highs_35 q.1 q.2.1 q.2.2) ((-1 : Int32), (0 : Int32), g2) = _ := a1
      rw [a1]
      rfl
    | succ q ih =>
      intro m g2 hm E e1
      have X2 : RX τ K g2 := RX_eq b4 (E.2 86 (by decide)).1
      obtain ⟨g3, a1, a2⟩ := ih (m + 1) (sI g2 110 m (lv0 (mk pF K) m)) (by omega) (eqO_sI E (by decide)) (fun i hi => by
        rw [hI_sI']
        by_cases z : i = m
        · rw [if_pos ⟨rfl, z⟩, z]
        · rw [if_neg (fun y => z y.2)]; exact e1 i (by omega))
      refine ⟨g3, ?_, a2⟩
      rw [lp_inl (s' := (nI (m + 1), sI g2 110 m (lv0 (mk pF K) m))) ?_]
      · exact a1
      · show s_Mod_highs_6 (nI m) g2 = _
        unfold s_Mod_highs_6
        rw [if_neg (by rw [show (1440 : Int32) = nI 1440 from rfl, nI_leI (by decide) (by omega)]; omega), p_lv0 X2 (by omega), Option.bind_some, ib_nI (by omega) (by decide), show ix (nI m) = m from nI_clamp (by omega), nI_1]
  obtain ⟨g3, a1, a2, a3⟩ := first 1440 0 g (by decide) (eqO_refl _ _) (fun i hi => absurd hi (by omega))
  have hE : eqO sRf g g3 := eqO_mono a2 (fun j hj => by have := sRf_of hj; exact sHi_no (by omega) (by omega))
  refine ⟨g3, ?_, ⟨eqO_trans b2 hE, m84_trans b3 (m84_of a2 (by decide)), RC_k b5 (by rw [(a2.2 84 (by decide)).1]) (by rw [(a2.2 84 (by decide)).1]) (a2.2 97 (by decide)).1 (a2.2 99 (by decide)).1⟩, ⟨RX_eq b4 (a2.2 86 (by decide)).1, ?_, ?_⟩, a3⟩
  · unfold s_Mod_highs
    rw [b1, Option.bind_some]
    exact a1
  · rw [(a2.2 97 (by decide)).1]; exact b6.1
  · rw [(a2.2 99 (by decide)).1]; exact b6.2
theorem p_rightR {τ : Nat → TF} {K : Nat → Int32} {h : Hp} (X : LX τ K h) (h109 : ∀ m, m < 1440 → hI h 109 m = snV (mk pF K) m) {a b : Nat} (ha : a < 1440) (hb : b < 2880) : s_Mod_rightBy (nI a) (nI b).toInt64 h = some (nI (rgT (mk pF K) (td0 (tin τ K) (mk pF K)) a b)) := by
  have t3 : s_Mod_term 3 h = some (mk pF K 33) := p_termK X.1 (k := 3) (by decide)
  have key : ∀ (q m : Nat), m + q = 1440 → lp (fun q : Int32 × Int64 × Int32 × Int32 => s_Mod_rightBy_6 q.1 q.2.1 q.2.2.1 q.2.2.2 h) (nI a, (nI b).toInt64, nI (smN (rgM (mk pF K) (td0 (tin τ K) (mk pF K)) a b) m), nI m) = some (nI (smN (rgM (mk pF K) (td0 (tin τ K) (mk pF K)) a b) 1440)) := by
    intro q
    induction q with
    | zero =>
      intro m hm
      have hm : m = 1440 := by omega
      subst hm
      refine lp_inr ?_
      show s_Mod_rightBy_6 (nI a) (nI b).toInt64 _ (nI 1440) h = _
      unfold s_Mod_rightBy_6
      rw [if_pos (show (1440 : Int32) ≤ nI 1440 by decide)]
    | succ q ih =>
      intro m hm
      rw [lp_inl (s' := (nI a, (nI b).toInt64, nI (smN (rgM (mk pF K) (td0 (tin τ K) (mk pF K)) a b) (m + 1)), nI (m + 1))) ?_]
      · exact ih (m + 1) (by omega)
      · show s_Mod_rightBy_6 (nI a) (nI b).toInt64 (nI (smN (rgM (mk pF K) (td0 (tin τ K) (mk pF K)) a b) m)) (nI m) h = _
        have e56 : ∀ u : Bool, s_Mod_rightBy_56 (nI a) (nI b).toInt64 (nI m) (if u then 1 else 0) (nI (smN (rgM (mk pF K) (td0 (tin τ K) (mk pF K)) a b) m)) h = some (.inl (nI a, (nI b).toInt64, nI (smN (rgM (mk pF K) (td0 (tin τ K) (mk pF K)) a b) m + (if u = decide (szI (td0 (tin τ K) (mk pF K) m) ≤ mk pF K 33) then 1 else 0)), nI (m + 1))) := by
          intro u
          unfold s_Mod_rightBy_56 s_Mod_rightBy_79 s_Mod_rightBy_87 s_Mod_rightBy_90
          rw [ib_nI (by omega) (by decide), show ix (nI m) = m from nI_clamp (by omega), X.2.1 m (by omega), p_size, Option.bind_some, t3, Option.bind_some, nI_1 m, nI_1 (smN (rgM (mk pF K) (td0 (tin τ K) (mk pF K)) a b) m), Int32.add_zero]
          by_cases z : szI (td0 (tin τ K) (mk pF K) m) ≤ mk pF K 33
          · rw [if_neg (Int32.not_lt.mpr z), decide_eq_true z]
            cases u with
            | true => rfl
            | false => rfl
          · rw [if_pos (Int32.not_le.mp z), decide_eq_false z]
            cases u with
            | true => rfl
            | false => rfl
        unfold s_Mod_rightBy_6 s_Mod_rightBy_55
        rw [if_neg (by rw [show (1440 : Int32) = nI 1440 from rfl, nI_leI (by decide) (by omega)]; omega), ib_nI (by omega) (by decide), show ix (nI m) = m from nI_clamp (by omega), h109 m (by omega)]
        have es : smN (rgM (mk pF K) (td0 (tin τ K) (mk pF K)) a b) (m + 1) = smN (rgM (mk pF K) (td0 (tin τ K) (mk pF K)) a b) m + rgM (mk pF K) (td0 (tin τ K) (mk pF K)) a b m := rfl
        rw [es]
        unfold snV
        cases hl : la (mk pF K) (m + 1) with
        | none =>
          show (if (-1 : Int32) = -1 then _ else _) = _
          have : rgM (mk pF K) (td0 (tin τ K) (mk pF K)) a b m = 0 := by unfold rgM; rw [hl]
          rw [if_pos rfl, this]
          unfold s_Mod_rightBy_90
          rw [nI_1 m]
          rfl
        | some z =>
          have zl := la_lt _ _ _ hl
          have er : rgM (mk pF K) (td0 (tin τ K) (mk pF K)) a b m = if (decide (a ≤ m - z) && decide (m - z ≤ b)) = decide (szI (td0 (tin τ K) (mk pF K) m) ≤ mk pF K 33) then 1 else 0 := by unfold rgM; rw [hl]
          show (if nI (m - z) = -1 then _ else ib (nI m) 1440 (if nI (m - z) < nI a then _ else ib (nI m) 1440 (if 0 < lg_cmp (nI (m - z)).toInt64 (nI b).toInt64 then _ else _))) = _
          rw [if_neg (fun y => by
            have : nI (m - z) < 0 := by rw [y]; decide
            exact nI_pos (by omega) this), ib_nI (by omega) (by decide), ib_nI (by omega) (by decide), er]
          by_cases y1 : m - z < a
          · rw [if_pos (by rw [nI_ltI (by omega) (by omega)]; exact y1), decide_eq_false (p := a ≤ m - z) (by omega), Bool.false_and]
            exact e56 false
          · rw [if_neg (by rw [nI_ltI (by omega) (by omega)]; exact y1), decide_eq_true (p := a ≤ m - z) (by omega), Bool.true_and]
            by_cases y2 : m - z ≤ b
            · rw [if_neg (by rw [lg_cmp_gt, lt64, nI_ltI (by omega) (by omega)]; omega), decide_eq_true y2]
              exact e56 true
            · rw [if_pos (by rw [lg_cmp_gt, lt64, nI_ltI (by omega) (by omega)]; omega), decide_eq_false y2]
              exact e56 false
  exact key 1440 0 (by decide)
theorem R_right {τ : Nat → TF} {K : Nat → Int32} {n : Nat} {h : Hp} (x1 x2 : Int32) (X : RX τ K h) (rc : RC (tin τ K) K n h) : ∃ h2, s_Mod_right x1 x2 h = some (aRight x1 x2 (tin τ K) K, h2) ∧ RE (tin τ K) K n h h2 := by
  unfold s_Mod_right s_Mod_right_14 aRight
  rw [p_isMinuteR, Option.bind_some]
  by_cases h1 : wi x1 0 1439 = 0
  · rw [if_pos h1, if_pos h1]; exact ⟨h, rfl, RE_refl rc⟩
  rw [if_neg h1, if_neg h1, p_isMinuteR, Option.bind_some]
  by_cases h2 : wi x2 0 1439 = 0
  · rw [if_pos h2, if_pos h2]; exact ⟨h, rfl, RE_refl rc⟩
  rw [if_neg h2, if_neg h2]
  obtain ⟨a, ha, rfl⟩ := wi_nat (b := 1439) (by decide) (wi_n0 h1)
  obtain ⟨b, hb, rfl⟩ := wi_nat (b := 1439) (by decide) (wi_n0 h2)
  obtain ⟨g, b1, b2, b3, b4⟩ := p_highs X rc
  refine ⟨g, ?_, b2⟩
  rw [b1, Option.bind_some]
  show ((s_Mod_rightBy (nI a) (nI b).toInt64 g).bind fun u4 => some (u4, g)) = _
  rw [p_rightR b3 b4 (by omega) (by omega), Option.bind_some, show ix (nI a) = a from nI_clamp (by omega), show ix (nI b) = b from nI_clamp (by omega)]
theorem R_mark {τ : Nat → TF} {K : Nat → Int32} {n : Nat} {h : Hp} (x1 : Int32) (X : RX τ K h) (rc : RC (tin τ K) K n h) : ∃ h2, s_Mod_mark x1 h = some (aMark x1 (tin τ K) K, h2) ∧ RE (tin τ K) K n h h2 := by
  unfold s_Mod_mark s_Mod_mark_18 aMark
  rw [p_lies, Option.bind_some]
  by_cases h1 : wi x1 0 720 = 0
  · rw [if_pos h1, if_pos h1]; exact ⟨h, rfl, RE_refl rc⟩
  rw [if_neg h1, if_neg h1]
  obtain ⟨w, hw, rfl⟩ := wi_nat (b := 720) (by decide) (wi_n0 h1)
  obtain ⟨g, b1, b2, b3, b4⟩ := p_highs X rc
  refine ⟨g, ?_, b2⟩
  rw [b1, Option.bind_some, show ix (nI w) = w from nI_clamp (by omega)]
  cases hl : la (mk pF K) 1440 with
  | none =>
    show (if (0 : Int32) = 0 then _ else _) = _
    rw [if_pos rfl]
    rfl
  | some q0 =>
    show (if (1 : Int32) = 0 then _ else lp (fun q : Int32 × Int32 × Int32 × Int32 × Hp => s_Mod_mark_27 q.1 q.2.1 q.2.2.1 q.2.2.2.1 q.2.2.2.2) (nI w, 0, -1, nI 0, g)) = _
    rw [if_neg (by decide)]
    have F : ∀ a, rgT (mk pF K) (td0 (tin τ K) (mk pF K)) a (a + w) ≤ 1440 := fun a => smN_b (rgM_b (mk pF K) (td0 (tin τ K) (mk pF K)) a (a + w)) 1440
    have key : ∀ (q a : Nat), a + q = 719 → lp (fun q : Int32 × Int32 × Int32 × Int32 × Hp => s_Mod_mark_27 q.1 q.2.1 q.2.2.1 q.2.2.2.1 q.2.2.2.2) (nI w, nI (mkN (fun a => rgT (mk pF K) (td0 (tin τ K) (mk pF K)) a (a + w)) a), nI (rgT (mk pF K) (td0 (tin τ K) (mk pF K)) (mkN (fun a => rgT (mk pF K) (td0 (tin τ K) (mk pF K)) a (a + w)) a) (mkN (fun a => rgT (mk pF K) (td0 (tin τ K) (mk pF K)) a (a + w)) a + w)), nI (a + 1), g) = some (nI (mkN (fun a => rgT (mk pF K) (td0 (tin τ K) (mk pF K)) a (a + w)) 719), g) := by
      intro q
      induction q with
      | zero =>
        intro a ha
        have ha : a = 719 := by omega
        subst ha
        refine lp_inr ?_
        show s_Mod_mark_27 (nI w) _ _ (nI 720) g = _
        unfold s_Mod_mark_27
        rw [if_pos (show (720 : Int32) ≤ nI 720 by decide)]
      | succ q ih =>
        intro a ha
        have f1 := F (a + 1)
        have f2 := F (mkN (fun a => rgT (mk pF K) (td0 (tin τ K) (mk pF K)) a (a + w)) a)
        have eN : mkN (fun a => rgT (mk pF K) (td0 (tin τ K) (mk pF K)) a (a + w)) (a + 1) = if rgT (mk pF K) (td0 (tin τ K) (mk pF K)) (mkN (fun a => rgT (mk pF K) (td0 (tin τ K) (mk pF K)) a (a + w)) a) (mkN (fun a => rgT (mk pF K) (td0 (tin τ K) (mk pF K)) a (a + w)) a + w) < rgT (mk pF K) (td0 (tin τ K) (mk pF K)) (a + 1) (a + 1 + w) then a + 1 else mkN (fun a => rgT (mk pF K) (td0 (tin τ K) (mk pF K)) a (a + w)) a := rfl
        have stp : s_Mod_mark_27 (nI w) (nI (mkN (fun a => rgT (mk pF K) (td0 (tin τ K) (mk pF K)) a (a + w)) a)) (nI (rgT (mk pF K) (td0 (tin τ K) (mk pF K)) (mkN (fun a => rgT (mk pF K) (td0 (tin τ K) (mk pF K)) a (a + w)) a) (mkN (fun a => rgT (mk pF K) (td0 (tin τ K) (mk pF K)) a (a + w)) a + w))) (nI (a + 1)) g = some (.inl (nI w, nI (mkN (fun a => rgT (mk pF K) (td0 (tin τ K) (mk pF K)) a (a + w)) (a + 1)), nI (rgT (mk pF K) (td0 (tin τ K) (mk pF K)) (mkN (fun a => rgT (mk pF K) (td0 (tin τ K) (mk pF K)) a (a + w)) (a + 1)) (mkN (fun a => rgT (mk pF K) (td0 (tin τ K) (mk pF K)) a (a + w)) (a + 1) + w)), nI (a + 1 + 1), g)) := by
          unfold s_Mod_mark_27 s_Mod_mark_63
          rw [if_neg (by rw [show (720 : Int32) = nI 720 from rfl, nI_leI (by decide) (by omega)]; omega), nI_add, p_rightR b3 b4 (by omega) (by omega), Option.bind_some, nI_1, eN]
          by_cases z : rgT (mk pF K) (td0 (tin τ K) (mk pF K)) (mkN (fun a => rgT (mk pF K) (td0 (tin τ K) (mk pF K)) a (a + w)) a) (mkN (fun a => rgT (mk pF K) (td0 (tin τ K) (mk pF K)) a (a + w)) a + w) < rgT (mk pF K) (td0 (tin τ K) (mk pF K)) (a + 1) (a + 1 + w)
          · rw [if_pos z, if_pos (by rw [nI_ltI (by omega) (by omega)]; exact z)]
          · rw [if_neg z, if_neg (by rw [nI_ltI (by omega) (by omega)]; exact z)]
        rw [lp_inl stp]
        exact ih (a + 1) (by omega)
    have stp0 : s_Mod_mark_27 (nI w) 0 (-1) (nI 0) g = some (.inl (nI w, nI 0, nI (rgT (mk pF K) (td0 (tin τ K) (mk pF K)) 0 (0 + w)), nI (0 + 1), g)) := by
      have f0 := F 0
      unfold s_Mod_mark_27 s_Mod_mark_63
      rw [if_neg (by decide), nI_add, p_rightR b3 b4 (by decide) (by omega), Option.bind_some, nI_1, if_pos]
      rw [Int32.lt_iff_toInt_lt, nI_toInt (by omega), show (-1 : Int32).toInt = -1 by decide]
      omega
    rw [lp_inl stp0]
    exact key 719 0 (by decide)
theorem Q_right (n : Nat) (x1 x2 : Int32) (h : Hp) (_ : n < 512) (hi : Inv n h) : ∃ h2, q_right x1 x2 h = some h2 ∧ Inv (n + 1) h2 := ask hi (aRight x1 x2) (fun _ _ X => C_right x1 x2 X) (fun _ _ _ _ X rc => R_right x1 x2 X rc)
theorem Q_mark (n : Nat) (x1 : Int32) (h : Hp) (_ : n < 512) (hi : Inv n h) : ∃ h2, q_mark x1 h = some h2 ∧ Inv (n + 1) h2 := ask hi (aMark x1) (fun _ _ X => C_mark x1 X) (fun _ _ _ _ X rc => R_mark x1 X rc)
