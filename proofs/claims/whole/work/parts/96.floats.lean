/-! floats: counting and the class's -/
theorem sub_sub_r (a b c : Int32) : a - (b - c) = a - b + c := by
  rw [Int32.sub_eq_add_neg, Int32.neg_sub, Int32.sub_eq_add_neg, Int32.sub_eq_add_neg, Int32.add_assoc, Int32.add_comm c]
theorem szI_neg (x : Int32) : szI (-x) = szI x := by
  unfold szI
  have h1 := x.le_toInt
  have h2 := x.toInt_lt
  by_cases a : 0 ≤ x
  · by_cases b : 0 ≤ -x
    · rw [if_pos a, if_pos b]
      rw [Int32.le_iff_toInt_le, show (0 : Int32).toInt = 0 by decide] at a b
      apply Int32.toInt_inj.mp
      rw [Int32.toInt_neg] at b ⊢
      rw [Int.bmod_eq_of_le (by omega) (by omega)] at b ⊢
      omega
    · rw [if_pos a, if_neg b, Int32.neg_neg]
  · by_cases b : 0 ≤ -x
    · rw [if_neg a, if_pos b]
    · rw [if_neg a, if_neg b, Int32.neg_neg]
      rw [Int32.le_iff_toInt_le, show (0 : Int32).toInt = 0 by decide] at a b
      have e : x.toInt = -2147483648 := by
        rcases Int.lt_or_le (-2147483648) x.toInt with z | z
        · exfalso
          rw [Int32.toInt_neg, Int.bmod_eq_of_le (by omega) (by omega)] at b
          omega
        · omega
      have : x = Int32.minValue := Int32.toInt_inj.mp (by rw [e]; rfl)
      rw [this]
      rfl
theorem szI_sub (x y : Int32) : szI (x - y) = szI (y - x) := by rw [← szI_neg, Int32.neg_sub]
theorem smN_swap (f : Nat → Nat → Nat) (n : Nat) : ∀ m, smN (fun a => smN (fun b => f a b) n) m = smN (fun b => smN (fun a => f a b) m) n
  | 0 => (smN_0 n (fun _ _ => rfl)).symm
  | m + 1 => by
    have ad : ∀ (g e : Nat → Nat) k, smN (fun b => g b + e b) k = smN g k + smN e k := by
      intro g e k
      induction k with
      | zero => rfl
      | succ k ih => unfold smN; rw [ih]; omega
    show smN (fun a => smN (fun b => f a b) n) m + smN (fun b => f m b) n = smN (fun b => smN (fun a => f a b) m + f m b) n
    rw [smN_swap f n m, ad]
theorem kd_eq' {K : Nat → Int32} {j : Nat} (hj : j < 41 ∨ (161 ≤ j ∧ j < 185) ∨ j = 188) : mk pD K j = K j := by
  refine mk_at ?_ K
  unfold pD
  rcases hj with h | ⟨h1, h2⟩ | h
  · rw [decide_eq_true h]; rfl
  · rw [decide_eq_true h1, decide_eq_true h2]; simp
  · rw [decide_eq_true h]; simp
/-- what the class keeps of the floats, of the pairs that it has weighed -/
def pcs (K : Nat → Int32) (q : Nat) (l : List Nat) (D : Nat → Nat → Bool) : Nat := smN (fun b => smN (fun a => if D a b = true ∧ flL K q a b = l then 1 else 0) 51) (npH K q)
def ipD (K : Nat → Int32) (q : Nat) (D : Nat → Nat → Bool) (a b : Nat) : Prop := isP K q a b ∧ D a b = true
def prD (K : Nat → Int32) (q : Nat) (D : Nat → Nat → Bool) (a b c d e : Nat) : Prop := ipD K q D a e ∧ (∀ x y, ipD K q D x y → a ≤ x ∧ x ≤ b ∧ c ≤ y ∧ y ≤ d) ∧ (∀ y, ipD K q D a y → e ≤ y) ∧ (∃ y, ipD K q D b y) ∧ (∃ x, ipD K q D x c) ∧ ∃ x, ipD K q D x d
/-- how the fields stand -/
def fdS (F : Nat → Int32) (K : Nat → Int32) (q : Nat) (D : Nat → Nat → Bool) : Prop := ((∀ x y, ¬ ipD K q D x y) ∧ F 7 = -1 ∧ F 8 = -1 ∧ F 9 = -1 ∧ F 10 = -1 ∧ F 11 = -1) ∨ ∃ a b c d e, prD K q D a b c d e ∧ F 7 = nI (10 * a) ∧ F 8 = nI (10 * b) ∧ F 9 = nI (10 * c) ∧ F 10 = nI (10 * d) ∧ F 11 = nI (10 * e)
theorem fdS_skip {F : Nat → Int32} {K : Nat → Int32} {q x y : Nat} {D D2 : Nat → Nat → Bool} (hD : ∀ a b, D2 a b = true ↔ (D a b = true ∨ (a = x ∧ b = y))) (hn : ¬ isP K q x y) (H : fdS F K q D) : fdS F K q D2 := by
  have e : ∀ a b, ipD K q D2 a b ↔ ipD K q D a b := fun a b => by
    unfold ipD
    rw [hD]
    constructor
    · rintro ⟨p, d | ⟨rfl, rfl⟩⟩
      · exact ⟨p, d⟩
      · exact absurd p hn
    · rintro ⟨p, d⟩
      exact ⟨p, Or.inl d⟩
  rcases H with ⟨h1, h2⟩ | ⟨a, b, c, d, e1, ⟨p1, p2, p3, ⟨y1, p4⟩, ⟨x1, p5⟩, x2, p6⟩, h2⟩
  · exact Or.inl ⟨fun a b z => h1 a b ((e a b).mp z), h2⟩
  · exact Or.inr ⟨a, b, c, d, e1, ⟨(e _ _).mpr p1, fun x y z => p2 x y ((e _ _).mp z), fun y z => p3 y ((e _ _).mp z), ⟨y1, (e _ _).mpr p4⟩, ⟨x1, (e _ _).mpr p5⟩, x2, (e _ _).mpr p6⟩, h2⟩
/-- a pair that agrees comes: phases never fall -/
theorem keep_pr {K : Nat → Int32} {q x y a b c d e : Nat} {D D2 : Nat → Nat → Bool} (hD : ∀ a b, D2 a b = true ↔ (D a b = true ∨ (a = x ∧ b = y))) (hp : isP K q x y) (hy : ∀ u v, D u v = true → v ≤ y) (H : prD K q D a b c d e) : prD K q D2 (if x < a then x else a) (if b < x then x else b) c y (if x < a then y else e) := by
  obtain ⟨p1, p2, p3, ⟨y1, p4⟩, ⟨x1, p5⟩, x2, p6⟩ := H
  have up : ∀ u v, ipD K q D u v → ipD K q D2 u v := fun u v z => ⟨z.1, (hD u v).mpr (Or.inl z.2)⟩
  have nw : ipD K q D2 x y := ⟨hp, (hD x y).mpr (Or.inr ⟨rfl, rfl⟩)⟩
  have cs : ∀ u v, ipD K q D2 u v → ipD K q D u v ∨ (u = x ∧ v = y) := fun u v z => by
    rcases (hD u v).mp z.2 with w | w
    · exact Or.inl ⟨z.1, w⟩
    · exact Or.inr w
  have ab := p2 a e p1
  have cy : c ≤ y := Nat.le_trans (p2 a e p1).2.2.1 (hy a e p1.2)
  refine ⟨?_, fun u v z => ?_, fun v z => ?_, ?_, ⟨x1, up _ _ p5⟩, ⟨x, nw⟩⟩
  · by_cases w : x < a
    · rw [if_pos w, if_pos w]; exact nw
    · rw [if_neg w, if_neg w]; exact up _ _ p1
  · rcases cs u v z with w | ⟨rfl, rfl⟩
    · have := p2 u v w
      have := hy u v w.2
      refine ⟨?_, ?_, by omega, this⟩
      · split <;> omega
      · split <;> omega
    · refine ⟨?_, ?_, cy, Nat.le_refl _⟩
      · split <;> omega
      · split <;> omega
  · by_cases w : x < a
    · rw [if_pos w] at z ⊢
      rcases cs x v z with u | ⟨-, rfl⟩
      · have := (p2 x v u).1
        omega
      · exact Nat.le_refl _
    · rw [if_neg w] at z ⊢
      rcases cs a v z with u | ⟨ha, rfl⟩
      · exact p3 v u
      · exact hy a e p1.2
  · by_cases w : b < x
    · rw [if_pos w]; exact ⟨y, nw⟩
    · rw [if_neg w]; exact ⟨y1, up _ _ p4⟩
theorem keep_new {K : Nat → Int32} {q x y : Nat} {D D2 : Nat → Nat → Bool} (hD : ∀ a b, D2 a b = true ↔ (D a b = true ∨ (a = x ∧ b = y))) (hp : isP K q x y) (H : ∀ a b, ¬ ipD K q D a b) : prD K q D2 x x y y y := by
  have nw : ipD K q D2 x y := ⟨hp, (hD x y).mpr (Or.inr ⟨rfl, rfl⟩)⟩
  have cs : ∀ u v, ipD K q D2 u v → u = x ∧ v = y := fun u v z => by
    rcases (hD u v).mp z.2 with w | w
    · exact absurd ⟨z.1, w⟩ (H u v)
    · exact w
  refine ⟨nw, fun u v z => ?_, fun v z => ?_, ⟨y, nw⟩, ⟨x, nw⟩, ⟨x, nw⟩⟩
  · obtain ⟨rfl, rfl⟩ := cs u v z; omega
  · obtain ⟨-, rfl⟩ := cs x v z; omega
def kpF (F : Nat → Int32) (x y : Nat) : Nat → Int32 := fun k => if k = 6 then F 6 + 1 else if k = 7 then (if F 7 = -1 then nI (10 * x) else if F 7 ≤ nI (10 * x) then F 7 else nI (10 * x)) else if k = 8 then z_max (F 8) (nI (10 * x)) else if k = 9 then (if F 9 = -1 then nI (10 * y) else F 9) else if k = 10 then nI (10 * y) else if k = 11 then (if F 7 = -1 then nI (10 * y) else if F 7 ≤ nI (10 * x) then F 11 else nI (10 * y)) else F k
theorem p_keep {h : Hp} {x y : Nat} : ∃ h1, s_Soundings_keepPair (nI (10 * x)) (nI (10 * y)) h = some h1 ∧ eqO (fun j => decide (j = 74)) h h1 ∧ ∀ k, hI h1 74 k = kpF (hI h 74) x y k := by
  unfold s_Soundings_keepPair s_Soundings_keepPair_26 s_Soundings_keepPair_36 s_Soundings_keepPair_61
  simp only [lt_eq]
  have e7 : hI (sI h 74 6 (hI h 74 6 + 1)) 74 7 = hI h 74 7 := by rw [hI_sI', if_neg (by decide)]
  rw [e7]
  by_cases z : hI h 74 7 = -1
  · rw [if_pos z]
    have e9 : hI (sI (sI (sI (sI h 74 6 (hI h 74 6 + 1)) 74 7 (nI (10 * x))) 74 11 (nI (10 * y))) 74 8 (z_max (hI (sI (sI (sI h 74 6 (hI h 74 6 + 1)) 74 7 (nI (10 * x))) 74 11 (nI (10 * y))) 74 8) (nI (10 * x)))) 74 9 = hI h 74 9 := by simp [hI_sI']
    rw [e9]
    by_cases y9 : hI h 74 9 = -1
    · rw [if_pos y9]
      refine ⟨_, rfl, eqO_sI (eqO_sI (eqO_sI (eqO_sI (eqO_sI (eqO_sI (eqO_refl _ _) (by decide)) (by decide)) (by decide)) (by decide)) (by decide)) (by decide), fun k => ?_⟩
      unfold kpF
      rw [if_pos z, if_pos z, if_pos y9]
      simp only [hI_sI']
      by_cases k6 : k = 6
      · subst k6; simp
      by_cases k7 : k = 7
      · subst k7; simp
      by_cases k8 : k = 8
      · subst k8; simp
      by_cases k9 : k = 9
      · subst k9; simp
      by_cases k10 : k = 10
      · subst k10; simp
      by_cases k11 : k = 11
      · subst k11; simp
      simp [k6, k7, k8, k9, k10, k11]
    · rw [if_neg y9]
      refine ⟨_, rfl, eqO_sI (eqO_sI (eqO_sI (eqO_sI (eqO_sI (eqO_refl _ _) (by decide)) (by decide)) (by decide)) (by decide)) (by decide), fun k => ?_⟩
      unfold kpF
      rw [if_pos z, if_pos z, if_neg y9]
      simp only [hI_sI']
      by_cases k6 : k = 6
      · subst k6; simp
      by_cases k7 : k = 7
      · subst k7; simp
      by_cases k8 : k = 8
      · subst k8; simp
      by_cases k9 : k = 9
      · subst k9; simp
      by_cases k10 : k = 10
      · subst k10; simp
      by_cases k11 : k = 11
      · subst k11; simp
      simp [k6, k7, k8, k9, k10, k11]
  · rw [if_neg z]
    by_cases z2 : hI h 74 7 ≤ nI (10 * x)
    · rw [if_pos z2]
      have e9 : hI (sI (sI h 74 6 (hI h 74 6 + 1)) 74 8 (z_max (hI (sI h 74 6 (hI h 74 6 + 1)) 74 8) (nI (10 * x)))) 74 9 = hI h 74 9 := by simp [hI_sI']
      rw [e9]
      by_cases y9 : hI h 74 9 = -1
      · rw [if_pos y9]
        refine ⟨_, rfl, eqO_sI (eqO_sI (eqO_sI (eqO_sI (eqO_refl _ _) (by decide)) (by decide)) (by decide)) (by decide), fun k => ?_⟩
        unfold kpF
        rw [if_neg z, if_neg z, if_pos z2, if_pos z2, if_pos y9]
        simp only [hI_sI']
        by_cases k6 : k = 6
        · subst k6; simp
        by_cases k7 : k = 7
        · subst k7; simp
        by_cases k8 : k = 8
        · subst k8; simp
        by_cases k9 : k = 9
        · subst k9; simp
        by_cases k10 : k = 10
        · subst k10; simp
        by_cases k11 : k = 11
        · subst k11; simp
        simp [k6, k7, k8, k9, k10, k11]
      · rw [if_neg y9]
        refine ⟨_, rfl, eqO_sI (eqO_sI (eqO_sI (eqO_refl _ _) (by decide)) (by decide)) (by decide), fun k => ?_⟩
        unfold kpF
        rw [if_neg z, if_neg z, if_pos z2, if_pos z2, if_neg y9]
        simp only [hI_sI']
        by_cases k6 : k = 6
        · subst k6; simp
        by_cases k7 : k = 7
        · subst k7; simp
        by_cases k8 : k = 8
        · subst k8; simp
        by_cases k9 : k = 9
        · subst k9; simp
        by_cases k10 : k = 10
        · subst k10; simp
        by_cases k11 : k = 11
        · subst k11; simp
        simp [k6, k7, k8, k9, k10, k11]
    · rw [if_neg z2]
      have e9 : hI (sI (sI (sI (sI h 74 6 (hI h 74 6 + 1)) 74 7 (nI (10 * x))) 74 11 (nI (10 * y))) 74 8 (z_max (hI (sI (sI (sI h 74 6 (hI h 74 6 + 1)) 74 7 (nI (10 * x))) 74 11 (nI (10 * y))) 74 8) (nI (10 * x)))) 74 9 = hI h 74 9 := by simp [hI_sI']
      rw [e9]
      by_cases y9 : hI h 74 9 = -1
      · rw [if_pos y9]
        refine ⟨_, rfl, eqO_sI (eqO_sI (eqO_sI (eqO_sI (eqO_sI (eqO_sI (eqO_refl _ _) (by decide)) (by decide)) (by decide)) (by decide)) (by decide)) (by decide), fun k => ?_⟩
        unfold kpF
        rw [if_neg z, if_neg z, if_neg z2, if_neg z2, if_pos y9]
        simp only [hI_sI']
        by_cases k6 : k = 6
        · subst k6; simp
        by_cases k7 : k = 7
        · subst k7; simp
        by_cases k8 : k = 8
        · subst k8; simp
        by_cases k9 : k = 9
        · subst k9; simp
        by_cases k10 : k = 10
        · subst k10; simp
        by_cases k11 : k = 11
        · subst k11; simp
        simp [k6, k7, k8, k9, k10, k11]
      · rw [if_neg y9]
        refine ⟨_, rfl, eqO_sI (eqO_sI (eqO_sI (eqO_sI (eqO_sI (eqO_refl _ _) (by decide)) (by decide)) (by decide)) (by decide)) (by decide), fun k => ?_⟩
        unfold kpF
        rw [if_neg z, if_neg z, if_neg z2, if_neg z2, if_neg y9]
        simp only [hI_sI']
        by_cases k6 : k = 6
        · subst k6; simp
        by_cases k7 : k = 7
        · subst k7; simp
        by_cases k8 : k = 8
        · subst k8; simp
        by_cases k9 : k = 9
        · subst k9; simp
        by_cases k10 : k = 10
        · subst k10; simp
        by_cases k11 : k = 11
        · subst k11; simp
        simp [k6, k7, k8, k9, k10, k11]
