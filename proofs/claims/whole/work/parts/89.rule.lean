/-! the pilot's rule: the class's -/
def hiA (p : Nat → Bool) : Nat → Nat → Bool
  | 0, _ => true
  | r + 1, k => p k && hiA p r (k + 1)
theorem hiA_all (p : Nat → Bool) : ∀ r k, hiA p r k = true ↔ ∀ j, k ≤ j → j < k + r → p j = true
  | 0, k => ⟨fun _ j h1 h2 => absurd h2 (by omega), fun _ => rfl⟩
  | r + 1, k => by
    unfold hiA
    rw [Bool.and_eq_true, hiA_all p r (k + 1)]
    constructor
    · intro z j h1 h2
      by_cases hj : j = k
      · rw [hj]; exact z.1
      · exact z.2 j (by omega) (by omega)
    · intro z
      exact ⟨z k (by omega) (by omega), fun j h1 h2 => z j (by omega) (by omega)⟩
def hiP (K : Nat → Int32) (m k : Nat) : Bool := decide (lv0 K (m - (k + 1)) < lv0 K m) && decide (lv0 K (m + (k + 1)) ≤ lv0 K m)
theorem isH_e (K : Nat → Int32) (m : Nat) : isH K m = (decide (60 ≤ m) && decide (m + 60 < 1440) && hiA (hiP K m) 60 0) := by
  have e : ((List.range 60).all fun k => hiP K m k) = hiA (hiP K m) 60 0 := by
    apply Bool.eq_iff_iff.mpr
    rw [List.all_eq_true, hiA_all]
    constructor
    · intro z j _ h2
      exact z j (List.mem_range.mpr (by omega))
    · intro z j hj
      exact z j (by omega) (by have := List.mem_range.mp hj; omega)
  rw [← e]
  rfl
def LVX (K row : Nat → Int32) (h : Hp) : Prop := StP K h 1 ∧ TdOK (mk pF K) h ∧ ∀ m, m < 1440 → hI h 57 m = row m
theorem p_lvT {K row : Nat → Int32} {h : Hp} (X : LVX K row h) {m : Nat} (hm : m < 1440) : s_Water_levelToday 0 (nI m) h = some (lv0 (mk pF K) m) := p_levelToday X.2.1 (kf_sea X.1) (kf_term X.1) (e := 0) (by decide) hm
theorem p_isHighC {K row : Nat → Int32} {h : Hp} (X : LVX K row h) {m : Nat} (hm : m < 1440) : s_Rule_isHigh (nI m) h = some (if isH (mk pF K) m then 1 else 0) := by
  rw [isH_e]
  unfold s_Rule_isHigh s_Rule_isHigh_16
  by_cases z1 : 60 ≤ m
  · rw [if_neg (by rw [show (60 : Int32) = nI 60 from rfl, nI_ltI (by omega) (by decide)]; omega), decide_eq_true z1, Bool.true_and]
    by_cases z2 : m + 60 < 1440
    · rw [if_pos (by rw [show (60 : Int32) = nI 60 from rfl, nI_add, show (1440 : Int32) = nI 1440 from rfl, nI_ltI (by omega) (by decide)]; exact z2), decide_eq_true z2, Bool.true_and, p_lvT X hm, Option.bind_some]
      have key : ∀ (q k : Nat), k + q = 60 → lp (fun q : Int32 × Int32 × Int32 => s_Rule_isHigh_30 q.1 q.2.1 q.2.2 h) (nI m, lv0 (mk pF K) m, nI (k + 1)) = some (if hiA (hiP (mk pF K) m) q k then 1 else 0) := by
        intro q
        induction q with
        | zero =>
          intro k hk
          have hk : k = 60 := by omega
          subst hk
          refine lp_inr ?_
          show s_Rule_isHigh_30 (nI m) (lv0 (mk pF K) m) (nI 61) h = _
          unfold s_Rule_isHigh_30
          rw [if_pos (show (60 : Int32) < nI 61 by decide)]
          rfl
        | succ q ih =>
          intro k hk
          have stp : s_Rule_isHigh_30 (nI m) (lv0 (mk pF K) m) (nI (k + 1)) h = if hiP (mk pF K) m k then some (.inl (nI m, lv0 (mk pF K) m, nI (k + 1 + 1))) else some (.inr 0) := by
            unfold s_Rule_isHigh_30 s_Rule_isHigh_66 hiP
            rw [if_neg (by rw [show (60 : Int32) = nI 60 from rfl, nI_ltI (by decide) (by omega)]; omega), nI_sub (by omega), nI_add, p_lvT X (by omega), Option.bind_some, p_lvT X (by omega), Option.bind_some, nI_1]
            by_cases y1 : lv0 (mk pF K) (m - (k + 1)) < lv0 (mk pF K) m
            · rw [if_neg (Int32.not_le.mpr y1), decide_eq_true y1, Bool.true_and]
              by_cases y2 : lv0 (mk pF K) (m + (k + 1)) ≤ lv0 (mk pF K) m
              · rw [if_pos y2, decide_eq_true y2]; rfl
              · rw [if_neg y2, decide_eq_false y2]; rfl
            · rw [if_pos (Int32.not_lt.mp y1), decide_eq_false y1]; rfl
          unfold hiA
          cases hp : hiP (mk pF K) m k with
          | true =>
            rw [hp, if_pos rfl] at stp
            rw [lp_inl stp, Bool.true_and]
            exact ih (k + 1) (by omega)
          | false =>
            rw [hp, if_neg (by decide)] at stp
            rw [lp_inr stp]
            rfl
      exact key 60 0 (by decide)
    · rw [if_neg (by rw [show (60 : Int32) = nI 60 from rfl, nI_add, show (1440 : Int32) = nI 1440 from rfl, nI_ltI (by omega) (by decide)]; exact z2), decide_eq_false z2]; rfl
  · rw [if_pos (by rw [show (60 : Int32) = nI 60 from rfl, nI_ltI (by omega) (by decide)]; omega), decide_eq_false z1]; rfl
theorem la_lt (K : Nat → Int32) : ∀ m q, la K m = some q → q < m ∧ 60 ≤ q
  | 0, _, e => by cases e
  | m + 1, q, e => by
    unfold la at e
    split at e
    · rename_i hz
      cases e
      rw [isH_e] at hz
      simp only [Bool.and_eq_true, decide_eq_true_eq] at hz
      omega
    · have := la_lt K m q e
      omega
theorem la_60 (K : Nat → Int32) : la K 60 = none := by
  cases h : la K 60 with
  | none => rfl
  | some q => have := la_lt K 60 q h; omega
def sgn (K row : Nat → Int32) (m : Nat) : Int := if szI (row m) ≤ K 33 then 1 else -1
def rlB (K row : Nat → Int32) (i m : Nat) : Int := match la K (m + 1) with
  | none => 0
  | some a => if m - a + 1 = i then sgn K row m else 0
theorem rlW_step (K row : Nat → Int32) (i m : Nat) : rlW K row (i + 1) m = rlW K row i m + rlB K row (i + 1) m := by
  unfold rlW rlB
  cases la K (m + 1) with
  | none => rfl
  | some a =>
    show (if m - a < i + 1 then sgn K row m else 0) = (if m - a < i then sgn K row m else 0) + (if m - a + 1 = i + 1 then sgn K row m else 0)
    by_cases z : m - a < i
    · rw [if_pos (by omega), if_pos z, if_neg (by omega)]; omega
    · by_cases y : m - a = i
      · rw [if_pos (by omega), if_neg z, if_pos (by omega)]; omega
      · rw [if_neg (by omega), if_neg z, if_neg (by omega)]; omega
theorem rlW_0 (K row : Nat → Int32) (m : Nat) : rlW K row 0 m = 0 := by
  unfold rlW
  cases la K (m + 1) with
  | none => rfl
  | some a => exact if_neg (by omega)
theorem rlB_0 (K row : Nat → Int32) (m : Nat) : rlB K row 0 m = 0 := by
  unfold rlB
  cases la K (m + 1) with
  | none => rfl
  | some a => exact if_neg (by omega)
theorem smZ_add {f g e : Nat → Int} (h : ∀ m, f m = g m + e m) : ∀ n, smZ f n = smZ g n + smZ e n
  | 0 => rfl
  | n + 1 => by
    unfold smZ
    rw [smZ_add h n, h n]
    omega
theorem smZ_0 {f : Nat → Int} : ∀ n, (∀ m, m < n → f m = 0) → smZ f n = 0
  | 0, _ => rfl
  | n + 1, h => by
    unfold smZ
    rw [smZ_0 n (fun m hm => h m (by omega)), h n (by omega)]
    rfl
theorem smZ_b {f : Nat → Int} (h : ∀ m, -1 ≤ f m ∧ f m ≤ 1) : ∀ n : Nat, -(n : Int) ≤ smZ f n ∧ smZ f n ≤ (n : Int)
  | 0 => ⟨Int.le_refl 0, Int.le_refl 0⟩
  | n + 1 => by
    unfold smZ
    have h1 := smZ_b h n
    have h2 := h n
    omega
theorem smN_0 {f : Nat → Nat} : ∀ n, (∀ m, m < n → f m = 0) → smN f n = 0
  | 0, _ => rfl
  | n + 1, h => by
    unfold smN
    rw [smN_0 n (fun m hm => h m (by omega)), h n (by omega)]
theorem smN_b {f : Nat → Nat} (h : ∀ m, f m ≤ 1) : ∀ n, smN f n ≤ n
  | 0 => Nat.le_refl _
  | n + 1 => by
    unfold smN
    have h1 := smN_b h n
    have h2 := h n
    omega
theorem sgn_b (K row : Nat → Int32) (m : Nat) : -1 ≤ sgn K row m ∧ sgn K row m ≤ 1 := by
  unfold sgn
  split <;> omega
theorem rlB_b (K row : Nat → Int32) (i m : Nat) : -1 ≤ rlB K row i m ∧ rlB K row i m ≤ 1 := by
  unfold rlB
  cases la K (m + 1) with
  | none => exact ⟨show (-1 : Int) ≤ 0 by decide, show (0 : Int) ≤ 1 by decide⟩
  | some a =>
    show -1 ≤ (if m - a + 1 = i then sgn K row m else 0) ∧ (if m - a + 1 = i then sgn K row m else 0) ≤ 1
    have := sgn_b K row m
    split <;> omega
theorem rlW_b (K row : Nat → Int32) (i m : Nat) : -1 ≤ rlW K row i m ∧ rlW K row i m ≤ 1 := by
  unfold rlW
  cases la K (m + 1) with
  | none => exact ⟨show (-1 : Int) ≤ 0 by decide, show (0 : Int) ≤ 1 by decide⟩
  | some a =>
    show -1 ≤ (if m - a < i then sgn K row m else 0) ∧ (if m - a < i then sgn K row m else 0) ≤ 1
    have := sgn_b K row m
    split <;> omega
theorem rlR_b (K row : Nat → Int32) (m : Nat) : rlR K row m ≤ 1 := by
  unfold rlR
  cases la K (m + 1) with
  | none => exact Nat.zero_le _
  | some a =>
    show (if szI (row m) ≤ K 33 then 0 else 1) ≤ 1
    split <;> decide
def sRu (j : Nat) : Bool := decide (j = 78) || decide (j = 79)
theorem sRu_no {j : Nat} (h1 : j ≠ 78) (h2 : j ≠ 79) : sRu j = false := by
  unfold sRu
  rw [decide_eq_false h1, decide_eq_false h2]
  rfl
theorem TX_ru {τ : Nat → TF} {K : Nat → Int32} {h g : Hp} (X : TX τ K h) (E : eqO sRu h g) (c78 : C78 (tin τ K) (mk pF K) g) : TX τ K g := by
  obtain ⟨⟨⟨st, rg, rw0, cc⟩, lw⟩, t1, t2⟩ := X
  have f : ∀ j, j ≠ 78 → j ≠ 79 → hI g j = hI h j := fun j h1 h2 => (E.2 j (sRu_no h1 h2)).1
  have hr := hR_of E.1
  obtain ⟨⟨c9, c10, c11, c12, c56, c13, c58, -⟩, c69, c74⟩ := cc
  refine ⟨⟨⟨StP_eq E (fun j h1 h2 => sRu_no (by omega) (by omega)) st, rg, RW_eq E.1 rw0, ⟨?_, ?_, ?_, ?_, ?_, ?_, ?_, c78⟩, C69_eq (f 69 (by decide) (by decide)) (f 72 (by decide) (by decide)) (f 73 (by decide) (by decide)) rfl rfl c69, C74_eq (f 74 (by decide) (by decide)) (f 77 (by decide) (by decide)) rfl c74⟩, LW_eq E (fun j hj _ => sRu_no (by have : 114 ≤ j := hj; omega) (by have : 114 ≤ j := hj; omega)) lw⟩, ?_, ?_⟩
  · exact C9_node (f 50 (by decide) (by decide)) (f 54 (by decide) (by decide)) c9
  · unfold C10; rw [f 50 (by decide) (by decide), f 57 (by decide) (by decide)]; exact c10
  · unfold C11; rw [f 50 (by decide) (by decide), hr]
    rcases c11 with c | ⟨a, s, b, d⟩
    · exact Or.inl c
    · exact Or.inr ⟨a, s, b, by rw [f s (by have : 114 ≤ s := (rw0.1 s b).1; omega) (by have : 114 ≤ s := (rw0.1 s b).1; omega)]; exact d⟩
  · unfold C12; rw [f 50 (by decide) (by decide), hr, (E.2 56 (by decide)).2]
    rcases c12 with c | ⟨n, a1, a2, a3, s, b, d⟩
    · exact Or.inl c
    · exact Or.inr ⟨n, a1, a2, a3, s, b, by rw [f s (by have : 114 ≤ s := (rw0.2.1 s b).1; omega) (by have : 114 ≤ s := (rw0.2.1 s b).1; omega)]; exact d⟩
  · unfold C56; rw [(E.2 56 (by decide)).2]; exact c56
  · unfold C13; rw [f 50 (by decide) (by decide)]; exact c13
  · unfold C58; rw [f 58 (by decide) (by decide), f 59 (by decide) (by decide), f 60 (by decide) (by decide)]; exact c58
  · unfold TdOK; rw [f 54 (by decide) (by decide)]; exact t1
  · rw [f 57 (by decide) (by decide)]; exact t2
theorem LVX_of {τ : Nat → TF} {K : Nat → Int32} {h : Hp} (X : TX τ K h) : LVX K (td0 (tin τ K) (mk pF K)) h := ⟨X.1.1.1, X.2.1, X.2.2⟩
theorem LVX_ru {K row : Nat → Int32} {h g : Hp} (X : LVX K row h) (E : eqO sRu h g) : LVX K row g := by
  refine ⟨StP_eq E (fun j h1 h2 => sRu_no (by omega) (by omega)) X.1, ?_, ?_⟩
  · unfold TdOK; rw [(E.2 54 (by decide)).1]; exact X.2.1
  · rw [(E.2 57 (by decide)).1]; exact X.2.2
theorem p_isSlack {K row : Nat → Int32} {h : Hp} (X : LVX K row h) {m : Nat} (hm : m < 1440) : s_Water_isSlack (nI m) h = some (if szI (row m) ≤ mk pF K 33 then 1 else 0) := by
  unfold s_Water_isSlack
  rw [ib_nI hm (by decide), show ix (nI m) = m from nI_clamp (by omega), X.2.2 m hm, p_still X.1, Option.bind_some]
  by_cases z : szI (row m) ≤ mk pF K 33
  · rw [if_pos z, bz_1]
  · rw [if_neg z, bz_0]
def hiV (o : Option Nat) : Int32 := match o with
  | none => 0
  | some q => nI q
/-- how far the rule's first loop has come -/
def RLc (K row : Nat → Int32) (m : Nat) (g : Hp) : Prop := hI g 78 3 = (if (la (mk pF K) m).isSome then 1 else 0) ∧ hI g 78 2 = nI (smN (rlR (mk pF K) row) m) ∧ ∀ i, i ≤ 1440 → (hI g 79 i).toInt = smZ (rlB (mk pF K) row i) m
theorem p_ru53 {K row : Nat → Int32} {h g : Hp} {m : Nat} (X : LVX K row h) (hm : m < 1440) (E : eqO sRu h g) (e3 : hI g 78 3 = (if (la (mk pF K) (m + 1)).isSome then 1 else 0)) (e2 : hI g 78 2 = nI (smN (rlR (mk pF K) row) m)) (e79 : ∀ i, i ≤ 1440 → (hI g 79 i).toInt = smZ (rlB (mk pF K) row i) m) : ∃ g2, s_Rule_freshen_53 (hiV (la (mk pF K) (m + 1))) (nI m) g = some (.inl (hiV (la (mk pF K) (m + 1)), nI (m + 1), g2)) ∧ eqO sRu h g2 ∧ RLc K row (m + 1) g2 := by
  have nb := smN_b (rlR_b (mk pF K) row) m
  unfold s_Rule_freshen_53 s_Rule_freshen_89 s_Rule_freshen_105 s_Rule_freshen_109
  cases hl : la (mk pF K) (m + 1) with
  | none =>
    rw [hl] at e3
    have e3 : hI g 78 3 = 0 := e3
    rw [if_pos e3, nI_1]
    refine ⟨g, rfl, E, by rw [hl]; exact e3, ?_, fun i hi => ?_⟩
    · rw [e2]
      show _ = nI (smN (rlR (mk pF K) row) m + rlR (mk pF K) row m)
      have : rlR (mk pF K) row m = 0 := by unfold rlR; rw [hl]
      rw [this]; rfl
    · rw [e79 i hi]
      show _ = smZ (rlB (mk pF K) row i) m + rlB (mk pF K) row i m
      have : rlB (mk pF K) row i m = 0 := by unfold rlB; rw [hl]
      rw [this]; omega
  | some a =>
    have al := la_lt _ _ _ hl
    rw [hl] at e3
    have e3 : hI g 78 3 = 1 := e3
    have ei : nI m - hiV (some a) + 1 = nI (m - a + 1) := by
      show nI m - nI a + 1 = _
      rw [nI_sub (by omega), nI_1]
    have bb := smZ_b (rlB_b (mk pF K) row (m - a + 1)) m
    have ev := e79 (m - a + 1) (by omega)
    rw [if_neg (by rw [e3]; decide), p_isSlack (LVX_ru X E) hm, Option.bind_some]
    rw [ei, ib_nI (by omega) (by decide), show ix (nI (m - a + 1)) = m - a + 1 from nI_clamp (by omega)]
    have fin : ∀ (v : Int32) (r : Int32), v.toInt = sgn (mk pF K) row m → hI g 78 2 + r = nI (smN (rlR (mk pF K) row) m + rlR (mk pF K) row m) → ∃ g2, some (Sum.inl (hiV (some a), nI (m + 1), sI (sI g 79 (m - a + 1) (hI g 79 (m - a + 1) + v)) 78 2 (hI g 78 2 + r))) = (some (Sum.inl (hiV (some a), nI (m + 1), g2)) : Option ((Int32 × Int32 × Hp) ⊕ Hp)) ∧ eqO sRu h g2 ∧ RLc K row (m + 1) g2 := by
      intro v r hv hr
      refine ⟨_, rfl, eqO_sI (eqO_sI E (by decide)) (by decide), ?_, ?_, fun i hi => ?_⟩
      · rw [hI_sI', if_neg (by decide), hI_sI_ne (by decide), hl]; exact e3
      · rw [hI_sI', if_pos ⟨rfl, rfl⟩]; exact hr
      · rw [hI_sI_ne (by decide), hI_sI']
        show _ = smZ (rlB (mk pF K) row i) m + rlB (mk pF K) row i m
        have er : rlB (mk pF K) row i m = if m - a + 1 = i then sgn (mk pF K) row m else 0 := by unfold rlB; rw [hl]
        rw [er]
        by_cases z : i = m - a + 1
        · subst z
          have sb := sgn_b (mk pF K) row m
          rw [if_pos ⟨rfl, rfl⟩, if_pos rfl, Int32.toInt_add, ev, hv, Int.bmod_eq_of_le (by omega) (by omega)]
        · rw [if_neg (fun y => z y.2), if_neg (fun y => z y.symm), e79 i hi]; omega
    have rR : rlR (mk pF K) row m = if szI (row m) ≤ mk pF K 33 then 0 else 1 := by unfold rlR; rw [hl]
    by_cases z : szI (row m) ≤ mk pF K 33
    · rw [if_pos z, if_neg (show ¬ (1 : Int32) = 0 by decide), ib_nI (by omega) (by decide), lt_eq, if_neg (show ¬ (1 : Int32) = 0 by decide), hI_sI_ne (by decide), nI_1]
      refine fin 1 0 ?_ ?_
      · unfold sgn; rw [if_pos z]; rfl
      · rw [Int32.add_zero, e2, rR, if_pos z, Nat.add_zero]
    · rw [if_neg z, if_pos (show (0 : Int32) = 0 from rfl), ib_nI (by omega) (by decide), lt_eq, if_pos (show (0 : Int32) = 0 from rfl), hI_sI_ne (by decide), nI_1]
      refine fin (-1) 1 ?_ ?_
      · unfold sgn; rw [if_neg z]; rfl
      · rw [e2, rR, if_neg z, nI_1]
theorem p_ru117 {K row : Nat → Int32} {h : Hp} : ∀ (q i : Nat) (g : Hp), i + q = 1440 → eqO sRu h g → (∀ k, k ≠ 4 → hI g 78 k = hI h 78 k) → (∀ j, j ≤ 1440 → (hI g 79 j).toInt = if j ≤ i then smZ (rlW (mk pF K) row j) 1440 else smZ (rlB (mk pF K) row j) 1440) → ∃ g2, lp (fun q : Int32 × Hp => s_Rule_freshen_117 q.1 q.2) (nI (i + 1), g) = some g2 ∧ eqO sRu h g2 ∧ (∀ k, k ≠ 4 → hI g2 78 k = hI h 78 k) ∧ hI g2 78 4 = 1 ∧ ∀ j, j ≤ 1440 → (hI g2 79 j).toInt = smZ (rlW (mk pF K) row j) 1440 := by
  intro q
  induction q with
  | zero =>
    intro i g hi E e1 e2
    have hi : i = 1440 := by omega
    subst hi
    refine ⟨sI g 78 4 1, lp_inr ?_, eqO_sI E (by decide), fun k hk => ?_, by rw [hI_sI', if_pos ⟨rfl, rfl⟩], fun j hj => ?_⟩
    · show s_Rule_freshen_117 (nI 1441) g = _
      unfold s_Rule_freshen_117
      rw [if_pos (show (1440 : Int32) < nI 1441 by decide)]
    · rw [hI_sI', if_neg (by omega)]; exact e1 k hk
    · rw [hI_sI_ne (by decide), e2 j hj, if_pos hj]
  | succ q ih =>
    intro i g hi E e1 e2
    have b1 := smZ_b (rlB_b (mk pF K) row (i + 1)) 1440
    have b2 := smZ_b (rlW_b (mk pF K) row i) 1440
    have v1 := e2 (i + 1) (by omega)
    have v0 := e2 i (by omega)
    rw [if_neg (by omega)] at v1
    rw [if_pos (by omega)] at v0
    have ws := smZ_add (rlW_step (mk pF K) row i) 1440
    obtain ⟨g2, a1, a2⟩ := ih (i + 1) (sI g 79 (i + 1) (hI g 79 (i + 1) + hI g 79 i)) (by omega) (eqO_sI E (by decide)) (fun k hk => by rw [hI_sI_ne (by decide)]; exact e1 k hk) (fun j hj => by
      rw [hI_sI']
      by_cases z : j = i + 1
      · subst z
        rw [if_pos ⟨rfl, rfl⟩, if_pos (Nat.le_refl _), Int32.toInt_add, v1, v0, Int.bmod_eq_of_le (by omega) (by omega), ws]
        omega
      · rw [if_neg (fun y => z y.2), e2 j hj]
        by_cases y : j ≤ i
        · rw [if_pos y, if_pos (by omega)]
        · rw [if_neg y, if_neg (by omega)])
    refine ⟨g2, ?_, a2⟩
    rw [lp_inl (s' := (nI (i + 1 + 1), sI g 79 (i + 1) (hI g 79 (i + 1) + hI g 79 i))) ?_]
    · exact a1
    · show s_Rule_freshen_117 (nI (i + 1)) g = _
      unfold s_Rule_freshen_117
      rw [if_neg (by rw [show (1440 : Int32) = nI 1440 from rfl, nI_ltI (by decide) (by omega)]; omega), ib_nI (by omega) (by decide), nI_pred, ib_nI (by omega) (by decide), ib_nI (by omega) (by decide), show ix (nI (i + 1)) = i + 1 from nI_clamp (by omega), show ix (nI i) = i from nI_clamp (by omega), nI_1]
theorem p_rule {τ : Nat → TF} {K : Nat → Int32} {h : Hp} (X : TX τ K h) : ∃ h1, s_Rule_freshen h = some h1 ∧ eqO sRu h h1 ∧ TX τ K h1 ∧ ruOK (tin τ K) (mk pF K) h1 := by
  rcases X.1.1.2.2.2.1.2.2.2.2.2.2.2 with c | ⟨c1, c2⟩
  · have L := LVX_of X
    have n79 : nd h 79 0 1441 := nd_of (by decide) rfl
    have key : ∀ (q m : Nat) (g : Hp), m + q = 1440 → eqO sRu h g → RLc K (td0 (tin τ K) (mk pF K)) m g → ∃ g2, lp (fun q : Int32 × Int32 × Hp => s_Rule_freshen_31 q.1 q.2.1 q.2.2) (hiV (la (mk pF K) m), nI m, g) = some g2 ∧ eqO sRu h g2 ∧ ruOK (tin τ K) (mk pF K) g2 ∧ hI g2 78 4 = 1 := by
      intro q
      induction q with
      | zero =>
        intro m g hm E R
        have hm : m = 1440 := by omega
        subst hm
        obtain ⟨g2, a1, a2, a3, a4, a5⟩ := p_ru117 (K := K) (row := td0 (tin τ K) (mk pF K)) (h := g) 1440 0 g (by decide) (eqO_refl _ _) (fun _ _ => rfl) (fun j hj => by
          by_cases z : j ≤ 0
          · have : j = 0 := by omega
            subst this
            rw [if_pos z, R.2.2 0 (by decide), smZ_0 1440 (fun m _ => rlB_0 _ _ m), smZ_0 1440 (fun m _ => rlW_0 _ _ m)]
          · rw [if_neg z]; exact R.2.2 j hj)
        refine ⟨g2, lp_inr ?_, eqO_trans E a2, ⟨by rw [a3 3 (by decide)]; exact R.1, by rw [a3 2 (by decide)]; exact R.2.1, a5⟩, a4⟩
        show s_Rule_freshen_31 (hiV (la (mk pF K) 1440)) (nI 1440) g = _
        unfold s_Rule_freshen_31
        rw [if_pos (show (1440 : Int32) ≤ nI 1440 by decide)]
        have a1 : lp (fun q : Int32 × Hp => s_Rule_freshen_117 q.1 q.2) ((1 : Int32), g) = some g2 := a1
        rw [a1]
        rfl
      | succ q ih =>
        intro m g hm E R
        have hh := p_isHighC (LVX_ru L E) (show m < 1440 by omega)
        cases hz : isH (mk pF K) m with
        | true =>
          have el : la (mk pF K) (m + 1) = some m := by rw [la, if_pos hz]
          obtain ⟨g2, a1, a2, a3⟩ := p_ru53 (m := m) (g := sI g 78 3 1) L (by omega) (eqO_sI E (by decide)) (by rw [hI_sI', if_pos ⟨rfl, rfl⟩, el]; rfl) (by rw [hI_sI', if_neg (by decide)]; exact R.2.1) (fun i hi => by rw [hI_sI_ne (by decide)]; exact R.2.2 i hi)
          obtain ⟨g3, b1, b2⟩ := ih (m + 1) g2 (by omega) a2 a3
          refine ⟨g3, ?_, b2⟩
          rw [lp_inl (s' := (hiV (la (mk pF K) (m + 1)), nI (m + 1), g2)) ?_]
          · exact b1
          · show s_Rule_freshen_31 (hiV (la (mk pF K) m)) (nI m) g = _
            unfold s_Rule_freshen_31
            rw [if_neg (by rw [show (1440 : Int32) = nI 1440 from rfl, nI_leI (by decide) (by omega)]; omega), hh, hz, Option.bind_some]
            show (if (1 : Int32) = 0 then _ else _) = _
            rw [if_neg (by decide)]
            rw [el] at a1 ⊢
            exact a1
        | false =>
          have el : la (mk pF K) (m + 1) = la (mk pF K) m := by rw [la, if_neg (by rw [hz]; decide)]
          obtain ⟨g2, a1, a2, a3⟩ := p_ru53 (m := m) (g := g) L (by omega) E (by rw [el]; exact R.1) R.2.1 R.2.2
          obtain ⟨g3, b1, b2⟩ := ih (m + 1) g2 (by omega) a2 a3
          refine ⟨g3, ?_, b2⟩
          rw [lp_inl (s' := (hiV (la (mk pF K) (m + 1)), nI (m + 1), g2)) ?_]
          · exact b1
          · show s_Rule_freshen_31 (hiV (la (mk pF K) m)) (nI m) g = _
            unfold s_Rule_freshen_31
            rw [if_neg (by rw [show (1440 : Int32) = nI 1440 from rfl, nI_leI (by decide) (by omega)]; omega), hh, hz, Option.bind_some]
            show (if (0 : Int32) = 0 then _ else _) = _
            rw [if_pos rfl]
            rw [el] at a1 ⊢
            exact a1
    have lz : ∀ m, m < 60 → la (mk pF K) (m + 1) = none := fun m hm => by
      cases hq : la (mk pF K) (m + 1) with
      | none => rfl
      | some q => have := la_lt _ _ _ hq; omega
    have E0 : eqO sRu h (sI (sI (wI h 79 (fun k => if k < 1441 then 0 else hI h 79 k)) 78 2 0) 78 3 0) := eqO_sI (eqO_sI (eqO_wI (eqO_refl _ _) (by decide)) (by decide)) (by decide)
    obtain ⟨g2, a1, a2, a3, a4⟩ := key 1380 60 _ (by decide) E0 ⟨by rw [la_60, hI_sI', if_pos ⟨rfl, rfl⟩]; rfl, by
      rw [hI_sI', if_neg (by decide), hI_sI', if_pos ⟨rfl, rfl⟩, smN_0 60 (fun m hm => by unfold rlR; rw [lz m hm])]
      rfl, fun i hi => by
      rw [hI_sI_ne (by decide), hI_sI_ne (by decide), hI_wI, if_pos (by omega), smZ_0 60 (fun m hm => by unfold rlB; rw [lz m hm])]
      rfl⟩
    refine ⟨g2, ?_, a2, TX_ru X a2 (Or.inr ⟨a4, a3⟩), a3⟩
    unfold s_Rule_freshen
    rw [if_pos c, p_fillI n79 (by decide), Option.bind_some]
    rw [la_60] at a1
    exact a1
  · refine ⟨h, ?_, eqO_refl _ _, X, c2⟩
    unfold s_Rule_freshen
    rw [c1, if_neg (by decide)]
