/-! lost: the class's -/
def VA (h : Hp) (r : Nat) (f : Nat → Nat) : Prop := ∀ j, j < 52 → hL h r j = l6 (f j)
theorem VA_ad {h : Hp} {r i v : Nat} {g : Nat → Nat} (H : VA h r g) (hi : i < 52) : VA (sL h r i (hL h r i + l6 v)) r (ad g i v) := by
  intro j hj
  rw [hL_sL]
  show (if j = i then hL h r i + l6 v else hL h r j) = l6 (if j = i then g j + v else g j)
  by_cases z : j = i
  · rw [if_pos z, if_pos z, H i hi, l6_add, z]
  · rw [if_neg z, if_neg z]; exact H j hj
theorem p_landing {K : Nat → Int32} {h : Hp} (st : StP K h 1) {v : Int32} {o : Option Nat} (h1 : ∀ q, o = some q → q < 50 ∧ v = nI q) (h2 : o = none → wi v 0 49 = 0) : s_Drift_landing v h = some (nI (ldO K o 51)) := by
  unfold s_Drift_landing s_Drift_landing_26 s_Drift_landing_27 s_Drift_landing_38
  rw [p_within, Option.bind_some]
  cases o with
  | none =>
    rw [if_pos (h2 rfl)]
    rfl
  | some q =>
    obtain ⟨hq, rfl⟩ := h1 q rfl
    have w : wi (nI q) 0 49 = 1 := wi_nI (b := 49) (by omega) (by decide)
    rw [w, if_neg (by decide), ib_nI hq (by decide), show ix (nI q) = q from nI_clamp (by omega), p_kindC st hq]
    show _ = some (nI (ldR K q))
    unfold ldR
    by_cases z : K (41 + q) = 0
    · rw [if_pos z, if_pos z]; rfl
    · rw [if_neg z, if_neg z]; rfl
theorem wi_neg {v a b : Int32} (h : v < a) : wi v a b = 0 := if_pos h
theorem to3 {c : Nat} (hc : c < 50) : (∀ q, toC c 3 = some q → q < 50 ∧ nI c + 10 = nI q) ∧ (toC c 3 = none → wi (nI c + 10) 0 49 = 0) := by
  rw [toC_3, show (10 : Int32) = nI 10 from rfl, nI_add]
  by_cases z : c + 10 < 50
  · rw [if_pos z]
    exact ⟨fun q e => (by cases e; exact ⟨z, rfl⟩), fun e => (by cases e)⟩
  · rw [if_neg z]
    refine ⟨fun q e => (by cases e), fun _ => ?_⟩
    unfold wi
    rw [if_neg (nI_pos (by omega)), if_pos (by rw [show (49 : Int32) = nI 49 from rfl, nI_ltI (by decide) (by omega)]; omega)]
theorem to4 {c : Nat} (hc : c < 50) : (∀ q, toC c 4 = some q → q < 50 ∧ nI c - 10 = nI q) ∧ (toC c 4 = none → wi (nI c - 10) 0 49 = 0) := by
  rw [toC_4]
  by_cases z : c < 10
  · rw [if_pos z]
    refine ⟨fun q e => (by cases e), fun _ => wi_neg ?_⟩
    rw [Int32.lt_iff_toInt_lt, Int32.toInt_sub, nI_toInt (by omega), show (10 : Int32).toInt = 10 by decide, show (0 : Int32).toInt = 0 by decide, Int.bmod_eq_of_le (by omega) (by omega)]
    omega
  · rw [if_neg z, show (10 : Int32) = nI 10 from rfl, nI_sub (by omega)]
    exact ⟨fun q e => (by cases e; exact ⟨by omega, rfl⟩), fun e => (by cases e)⟩
def sDf (j : Nat) : Bool := decide (j = 81) || decide (j = 82)
theorem sDf_no {j : Nat} (h1 : j ≠ 81) (h2 : j ≠ 82) : sDf j = false := by
  unfold sDf
  rw [decide_eq_false h1, decide_eq_false h2]
  rfl
/-- only the longs of one row -/
def eqV (r : Nat) (h h2 : Hp) : Prop := h2.1 = h.1 ∧ h2.2.2 = h.2.2 ∧ ∀ j, j ≠ r → hL h2 j = hL h j
theorem eqV_refl (r : Nat) (h : Hp) : eqV r h h := ⟨rfl, rfl, fun _ _ => rfl⟩
theorem eqV_sL {r : Nat} {h h1 : Hp} {i : Nat} {v : Int64} (E : eqV r h h1) : eqV r h (sL h1 r i v) := ⟨E.1, E.2.1, fun j hj => by rw [hL_sL_ne hj]; exact E.2.2 j hj⟩
theorem eqV_trans {r : Nat} {h h1 h2 : Hp} (a : eqV r h h1) (b : eqV r h1 h2) : eqV r h h2 := ⟨b.1.trans a.1, b.2.1.trans a.2.1, fun j hj => (b.2.2 j hj).trans (a.2.2 j hj)⟩
theorem eqV_hI {r : Nat} {h h1 : Hp} (E : eqV r h h1) : hI h1 = hI h := E.1
theorem eqV_st {K : Nat → Int32} {r : Nat} {h h1 : Hp} (E : eqV r h h1) (st : StP K h 1) : StP K h1 1 := fun j hj => by rw [eqV_hI E]; exact st j hj
theorem eqV_nd {r q t n : Nat} {h h1 : Hp} (E : eqV r h h1) (H : nd h q t n) : nd h1 q t n := nd_eq E.2.1 H
theorem p_spread99 {K : Nat → Int32} {h : Hp} {r c x p a : Nat} {g : Nat → Nat} (st : StP K h 1) (hr : nd h r 1 52) (hc : c < 50) (hp : p ≤ 100) (ha : a < 52) (V : VA h r g) : ∃ h2, s_Drift_spread_99 (l6 x) (nI c) r (nI p) (nI a) h = some h2 ∧ eqV r h h2 ∧ VA h2 r (ad (ad (ad g a (x * 2 * p)) (ldO K (toC c 3) 51) (x * (100 - p))) (ldO K (toC c 4) 51) (x * (100 - p))) := by
  have w1 : (l6 x * 2) * (nI p).toInt64 = l6 (x * 2 * p) := by rw [show (2 : Int64) = l6 2 from rfl, l6_mul, l6_32 (by omega), l6_mul]
  have w2 : l6 x * (100 - nI p).toInt64 = l6 (x * (100 - p)) := by rw [show (100 : Int32) = nI 100 from rfl, nI_sub hp, l6_32 (by omega), l6_mul]
  have i3 := ldO_lt (K := K) (c := c) (mv := 3) (d := 51) hc (by decide)
  have i4 := ldO_lt (K := K) (c := c) (mv := 4) (d := 51) hc (by decide)
  have V1 := VA_ad (v := x * 2 * p) V ha
  have E1 : eqV r h (sL h r a (hL h r a + l6 (x * 2 * p))) := eqV_sL (eqV_refl _ _)
  have V2 := VA_ad (v := x * (100 - p)) V1 i3
  have E2 := eqV_sL (i := ldO K (toC c 3) 51) (v := hL (sL h r a (hL h r a + l6 (x * 2 * p))) r (ldO K (toC c 3) 51) + l6 (x * (100 - p))) E1
  have V3 := VA_ad (v := x * (100 - p)) V2 i4
  have E3 := eqV_sL (i := ldO K (toC c 4) 51) (v := hL (sL (sL h r a (hL h r a + l6 (x * 2 * p))) r (ldO K (toC c 3) 51) (hL (sL h r a (hL h r a + l6 (x * 2 * p))) r (ldO K (toC c 3) 51) + l6 (x * (100 - p)))) r (ldO K (toC c 4) 51) + l6 (x * (100 - p))) E2
  have n1 := eqV_nd E1 hr
  have n2 := eqV_nd E2 hr
  refine ⟨_, ?_, E3, V3⟩
  unfold s_Drift_spread_99
  rw [ak_some hr, ln_of hr, ib_nI ha (by decide), ak_some hr, ib_nI ha (by decide), show ix (nI a) = a from nI_clamp (by omega), w1, p_landing (eqV_st E1 st) (to3 hc).1 (to3 hc).2, Option.bind_some, lt_eq, ak_some n1, ln_of n1, ib_nI i3 (by decide), ak_some n1, ib_nI i3 (by decide), show ix (nI (ldO K (toC c 3) 51)) = ldO K (toC c 3) 51 from nI_clamp (by omega), w2, p_landing (eqV_st E2 st) (to4 hc).1 (to4 hc).2, Option.bind_some, lt_eq, ak_some n2, ln_of n2, ib_nI i4 (by decide), ak_some n2, ib_nI i4 (by decide), show ix (nI (ldO K (toC c 4) 51)) = ldO K (toC c 4) 51 from nI_clamp (by omega)]
theorem to12 {c : Nat} (hc : c < 50) (f : Int32) : (f ≤ 0 → toC c (if f ≤ 0 then 2 else 1) = if c % 10 = 0 then none else some (c - 1)) ∧ (¬ f ≤ 0 → toC c (if f ≤ 0 then 2 else 1) = if c % 10 = 9 then none else some (c + 1)) := by
  refine ⟨fun z => ?_, fun z => ?_⟩
  · rw [if_pos z, toC_2]
  · rw [if_neg z, toC_1]
theorem p_spread {K row : Nat → Int32} {h : Hp} {r c x m : Nat} {g : Nat → Nat} (st : StP K h 1) (rg : Rg K) (hrow : ∀ i, i < 1440 → hI h 57 i = row i) (hfb : na (fa (mk pF K) row (K (41 + c)) m) ≤ 10000) (hm : m < 1440) (hr : nd h r 1 52) (hc : c < 50) (V : VA h r g) : ∃ h2, s_Drift_spread (l6 x) (nI c) (nI m) r h = some h2 ∧ eqV r h h2 ∧ VA h2 r (sp1 K (fa (mk pF K) row (K (41 + c)) m) c x g) := by
  have er : z_rem (nI c) 10 = nI (c % 10) := nI_rem (b := 10) (by omega) (by decide)
  have hcr := cr_C hfb
  have hp := cr_le (fa (mk pF K) row (K (41 + c)) m)
  have t12 := to12 hc (fa (mk pF K) row (K (41 + c)) m)
  have e50 := p_spread99 (x := x) (p := cr (fa (mk pF K) row (K (41 + c)) m)) (a := 50) st hr hc hp (by decide) V
  have eq96 : ∀ (o : Option Nat) (v : Int32), (∀ q, o = some q → q < 50 ∧ v = nI q) → (o ≠ none) → ∃ h2, s_Drift_spread_96 (l6 x) (nI c) r (nI (cr (fa (mk pF K) row (K (41 + c)) m))) v h = some h2 ∧ eqV r h h2 ∧ VA h2 r (ad (ad (ad g (ldO K o 50) (x * 2 * cr (fa (mk pF K) row (K (41 + c)) m))) (ldO K (toC c 3) 51) (x * (100 - cr (fa (mk pF K) row (K (41 + c)) m)))) (ldO K (toC c 4) 51) (x * (100 - cr (fa (mk pF K) row (K (41 + c)) m)))) := by
    intro o v h1 h2
    have hl := p_landing st h1 (fun z => absurd z h2)
    have l52 : ldO K o 51 < 52 := by
      cases o with
      | none => exact absurd rfl h2
      | some q =>
        have := (h1 q rfl).1
        show ldR K q < 52
        unfold ldR
        split <;> omega
    have le : ldO K o 51 = ldO K o 50 := by
      cases o with
      | none => exact absurd rfl h2
      | some q => rfl
    unfold s_Drift_spread_96
    rw [hl, Option.bind_some, ← le]
    exact p_spread99 (x := x) st hr hc hp l52 V
  unfold s_Drift_spread s_Drift_spread_49 s_Drift_spread_64 s_Drift_spread_69 sp1
  rw [ib_nI hc (by decide), show ix (nI c) = c from nI_clamp (by omega), p_kindC st hc, p_flowOf st rg hrow hm, Option.bind_some, z_abs_eq, hcr.1, lt_eq, er]
  by_cases z : fa (mk pF K) row (K (41 + c)) m ≤ 0
  · rw [if_pos z, t12.1 z]
    by_cases y : c % 10 = 0
    · rw [y, if_pos (by decide), if_neg (by decide), if_pos rfl]
      exact e50
    · rw [if_neg (by
        rw [Int32.not_lt, Int32.le_iff_toInt_le, Int32.toInt_add, nI_toInt (by omega), show (-1 : Int32).toInt = -1 by decide, show (0 : Int32).toInt = 0 by decide, Int.bmod_eq_of_le (by omega) (by omega)]
        omega), if_pos (by
        rw [Int32.lt_iff_toInt_lt, Int32.toInt_add, nI_toInt (by omega), show (-1 : Int32).toInt = -1 by decide, show (10 : Int32).toInt = 10 by decide, Int.bmod_eq_of_le (by omega) (by omega)]
        omega), if_pos rfl, if_pos z, if_neg y, show (1 : Int32) = nI 1 from rfl, nI_sub (by omega)]
      exact eq96 (some (c - 1)) _ (fun q e => (by cases e; exact ⟨by omega, rfl⟩)) (by intro w; cases w)
  · rw [if_neg z, t12.2 z, nI_1]
    by_cases y : c % 10 = 9
    · rw [y, if_neg (by decide), if_neg (by decide), if_neg (by decide), if_pos rfl]
      exact e50
    · rw [if_neg (nI_pos (by omega)), if_pos (by rw [show (10 : Int32) = nI 10 from rfl, nI_ltI (by omega) (by decide)]; omega), if_pos rfl, if_neg z, if_neg y, nI_1]
      exact eq96 (some (c + 1)) _ (fun q e => (by cases e; exact ⟨by omega, rfl⟩)) (by intro w; cases w)
