/-! agree, tells: the reference's loops, the calls -/
def Dh (x y a b : Nat) : Bool := decide (a < x) || (decide (a = x) && decide (b < y))
theorem Dh_s (x y a b : Nat) : Dh x (y + 1) a b = true ↔ (Dh x y a b = true ∨ (a = x ∧ b = y)) := by
  unfold Dh
  simp only [Bool.or_eq_true, Bool.and_eq_true, decide_eq_true_eq]
  omega
theorem Dh_e (x n a b : Nat) (hb : b < n) : Dh x n a b = Dh (x + 1) 0 a b := by
  unfold Dh
  by_cases h : a < x
  · rw [decide_eq_true h, decide_eq_true (p := a < x + 1) (by omega)]; rfl
  · by_cases h2 : a = x
    · rw [decide_eq_true h2, decide_eq_true (p := a < x + 1) (by omega), decide_eq_true hb]; simp
    · rw [decide_eq_false h, decide_eq_false h2, decide_eq_false (p := a < x + 1) (by omega)]; simp
theorem ctQ_cg {K : Nat → Int32} {q : Nat} {bt : Option Nat} {D D2 : Nat → Nat → Bool} (h : ∀ a b, a < 51 → b < npH (mk pD K) q → D2 a b = D a b) : ctQ K q bt D2 = ctQ K q bt D := smN_cg _ (fun b hb => smN_cg _ (fun a ha => by rw [h a b ha hb]))
theorem RGg_cg {K : Nat → Int32} {q : Nat} {bt : Option Nat} {D D2 : Nat → Nat → Bool} {g : Hp} (h : ∀ a b, a < 51 → b < npH (mk pD K) q → D2 a b = D a b) (S : RGg K q bt D g) : RGg K q bt D2 g := by
  refine ⟨by rw [ctQ_cg h]; exact S.1, fun hb => ?_⟩
  have e := ipD_cg h
  rcases S.2 hb with h1 | ⟨a, b, c, d, e1, ⟨p1, p2, p3, ⟨y1, p4⟩, ⟨x1, p5⟩, x2, p6⟩, h2⟩
  · exact Or.inl (fun a b z => h1 a b ((e a b).mp z))
  · exact Or.inr ⟨a, b, c, d, e1, ⟨(e _ _).mpr p1, fun x y z => p2 x y ((e _ _).mp z), fun y z => p3 y ((e _ _).mp z), ⟨y1, (e _ _).mpr p4⟩, ⟨x1, (e _ _).mpr p5⟩, x2, (e _ _).mpr p6⟩, h2⟩
theorem p_ag115 {τ : Nat → TF} {K : Nat → Int32} {q x : Nat} {bt : Option Nat} {h : Hp} (X : RF τ K q h) (hq : q < 4) (hbt : ∀ f, bt = some f → f < 12) (hx : x < 51) :
    ∀ (d y : Nat) (g : Hp), y + d = npH (mk pD K) q → eqO sAs h g → m84 agF h g → RGg K q bt (Dh x y) g → ∃ g2, lp (fun q : Int32 × Int32 × Int32 × Int32 × Hp => s_Mod_agrees_115 q.1 q.2.1 q.2.2.1 q.2.2.2.1 q.2.2.2.2) (oI bt, K (7 + 3 * q), nI (10 * x), nI (10 * y), g) = some (.inl (oI bt, K (7 + 3 * q), nI (10 * (x + 1)), g2)) ∧ eqO sAs h g2 ∧ m84 agF h g2 ∧ RGg K q bt (Dh (x + 1) 0) g2 := by
  obtain ⟨p, p1, p2, ep, en⟩ := npH_e X.1.2.1 hq
  intro d
  induction d with
  | zero =>
    intro y g hy E M S
    have hy : y = npH (mk pD K) q := by omega
    refine ⟨g, lp_inr ?_, E, M, RGg_cg (fun a b ha hb => (Dh_e x y a b (by omega)).symm) S⟩
    show s_Mod_agrees_115 (oI bt) (K (7 + 3 * q)) (nI (10 * x)) (nI (10 * y)) g = _
    unfold s_Mod_agrees_115
    rw [ep, if_pos (by rw [nI_leI (by omega) (by omega)]; omega), show (10 : Int32) = nI 10 from rfl, nI_add, show 10 * x + 10 = 10 * (x + 1) by omega]
  | succ d ih =>
    intro y g hy E M S
    obtain ⟨g2, a1, a2, a3, a4⟩ := RGg_step (x := x) (y := y) (RF_84 X E) hq hbt (by omega) (Dh_s x y) (by
      unfold Dh
      rw [decide_eq_false (p := x < x) (by omega), decide_eq_false (p := y < y) (by omega), Bool.and_false]
      rfl) hx (by omega) (fun u v z => by
      unfold Dh at z
      simp only [Bool.or_eq_true, Bool.and_eq_true, decide_eq_true_eq] at z
      omega) (fun v z => by
      unfold Dh at z
      simp only [Bool.or_eq_true, Bool.and_eq_true, decide_eq_true_eq] at z
      omega) S
    obtain ⟨g3, b1, b2⟩ := ih (y + 1) g2 (by omega) (eqO_trans E a2) (m84_trans M a3) a4
    refine ⟨g3, ?_, b2⟩
    rw [lp_inl (s' := (oI bt, K (7 + 3 * q), nI (10 * x), nI (10 * (y + 1)), g2)) ?_]
    · exact b1
    · show s_Mod_agrees_115 (oI bt) (K (7 + 3 * q)) (nI (10 * x)) (nI (10 * y)) g = _
      unfold s_Mod_agrees_115
      rw [if_neg (by rw [ep, nI_leI (by omega) (by omega)]; omega), a1, show (10 : Int32) = nI 10 from rfl, nI_add, show 10 * y + 10 = 10 * (y + 1) by omega]
theorem p_ag104 {τ : Nat → TF} {K : Nat → Int32} {q : Nat} {bt : Option Nat} {h : Hp} (X : RF τ K q h) (hq : q < 4) (hbt : ∀ f, bt = some f → f < 12) :
    ∀ (d x : Nat) (g : Hp), x + d = 51 → eqO sAs h g → m84 agF h g → RGg K q bt (Dh x 0) g → ∃ g2, lp (fun q : Int32 × Int32 × Int32 × Hp => s_Mod_agrees_104 q.1 q.2.1 q.2.2.1 q.2.2.2) (oI bt, K (7 + 3 * q), nI (10 * x), g) = some g2 ∧ eqO sAs h g2 ∧ m84 agF h g2 ∧ RGg K q bt (Dh 51 0) g2 := by
  intro d
  induction d with
  | zero =>
    intro x g hx E M S
    have hx : x = 51 := by omega
    subst hx
    refine ⟨g, lp_inr ?_, E, M, S⟩
    show s_Mod_agrees_104 (oI bt) (K (7 + 3 * q)) (nI 510) g = _
    unfold s_Mod_agrees_104
    rw [if_pos (show (500 : Int32) < nI 510 by decide)]
  | succ d ih =>
    intro x g hx E M S
    obtain ⟨g2, a1, a2, a3, a4⟩ := p_ag115 (h := g) (RF_84 X E) hq hbt (show x < 51 by omega) (npH (mk pD K) q) 0 g (by omega) (eqO_refl _ _) (m84_refl _ _) S
    obtain ⟨g3, b1, b2⟩ := ih (x + 1) g2 (by omega) (eqO_trans E a2) (m84_trans M a3) a4
    refine ⟨g3, ?_, b2⟩
    rw [lp_inl (s' := (oI bt, K (7 + 3 * q), nI (10 * (x + 1)), g2)) ?_]
    · exact b1
    · show s_Mod_agrees_104 (oI bt) (K (7 + 3 * q)) (nI (10 * x)) g = _
      unfold s_Mod_agrees_104
      rw [if_neg (by rw [show (500 : Int32) = nI 500 from rfl, nI_ltI (by decide) (by omega)]; omega)]
      exact a1
theorem RGg_0 {K : Nat → Int32} {q : Nat} {bt : Option Nat} {g : Hp} (e : hI g 84 39 = 0) : RGg K q bt (Dh 0 0) g := by
  have d0 : ∀ a b, Dh 0 0 a b = false := fun a b => by
    unfold Dh
    rw [decide_eq_false (p := a < 0) (by omega), decide_eq_false (p := b < 0) (by omega), Bool.and_false]; rfl
  refine ⟨?_, fun _ => Or.inl (fun x y z => ?_)⟩
  · rw [e]
    have : ctQ K q bt (Dh 0 0) = 0 := smN_0 _ (fun b _ => smN_0 _ (fun a _ => if_neg (fun z => by rw [d0] at z; cases z.1)))
    rw [this]
    rfl
  · have := z.2
    rw [d0] at this
    cases this
theorem p_moonK {τ : Nat → TF} {K : Nat → Int32} {h : Hp} (X : RX τ K h) {q c : Nat} (hq : q < 4) (hc : c < 3) : s_Mod_moonOf 0 (nI q) (nI c) h = some (K (6 + 3 * q + c)) := by
  have := p_moonOf (e := 0) (k := q) (c := c) h (by decide) hq hc
  rw [Nat.mul_zero, Nat.add_zero, X.1] at this
  exact this
theorem p_agrees {τ : Nat → TF} {K : Nat → Int32} {h : Hp} {q : Nat} {bt : Option Nat} (X : RX τ K h) (hq : q < 4) (hbt : ∀ f, bt = some f → f < 12) : ∃ h2, s_Mod_agrees (nI q) (oI bt) h = some h2 ∧ eqO sAg h h2 ∧ m84 agF h h2 ∧ RGg K q bt (Dh 51 0) h2 := by
  have rg := X.2.1
  obtain ⟨k, hk, ek, ik⟩ := Rg_fl rg
  have per0 : ¬ K (7 + 3 * q) = 0 := by
    have := Rg_per0 rg 0 q (by decide) hq
    rwa [Nat.mul_zero, Nat.add_zero] at this
  have key : ∀ (d i : Nat) (g : Hp), i + d = k → eqO (fun j => decide (j = 108)) h g → (∀ f, f < i → hI g 108 f = flR (mk pD K) q f) → ∃ h2, lp (fun q : Int32 × Int32 × Int32 × Int32 × Hp => s_Mod_agrees_11 q.1 q.2.1 q.2.2.1 q.2.2.2.1 q.2.2.2.2) (nI q, oI bt, K (7 + 3 * q), nI i, g) = some h2 ∧ eqO sAg h h2 ∧ m84 agF h h2 ∧ RGg K q bt (Dh 51 0) h2 := by
    intro d
    induction d with
    | zero =>
      intro i g hi E e108
      have hi : i = k := by omega
      have Xg : RX τ K g := RX_eq X (E.2 86 (by decide)).1
      have RFg : RF τ K q (sI g 84 39 0) := ⟨RX_eq Xg (hI_sI_ne (by decide)), fun f hf => by rw [hI_sI_ne (by decide)]; exact e108 f (by omega)⟩
      obtain ⟨g2, a1, a2, a3, a4⟩ := p_ag104 (bt := bt) RFg hq hbt 51 0 (sI g 84 39 0) (by decide) (eqO_refl _ _) (m84_refl _ _) (RGg_0 (by rw [hI_sI', if_pos ⟨rfl, rfl⟩]))
      refine ⟨g2, lp_inr ?_, ?_, ?_, a4⟩
      · show s_Mod_agrees_11 (nI q) (oI bt) (K (7 + 3 * q)) (nI i) g = _
        unfold s_Mod_agrees_11
        have a1 : lp (fun q : Int32 × Int32 × Int32 × Hp => s_Mod_agrees_104 q.1 q.2.1 q.2.2.1 q.2.2.2) (oI bt, K (7 + 3 * q), (0 : Int32), sI g 84 39 0) = _ := a1
        rw [ib_some _ (by decide) (by decide), show ix 188 = 188 by decide, Xg.1, ek, hi, if_pos (Int32.le_refl _), a1]
        rfl
      · refine eqO_trans (eqO_mono E (fun j hj => ?_)) (eqO_trans (eqO_sI (eqO_refl _ _) (by decide)) (eqO_mono a2 (fun j hj => ?_)))
        · unfold sAg at hj
          simp only [Bool.or_eq_false_iff] at hj
          exact hj.2
        · unfold sAg at hj
          simp only [Bool.or_eq_false_iff] at hj
          exact hj.1
      · exact m84_trans (m84_sI (m84_of E (by decide)) (Or.inr (by decide))) a3
    | succ d ih =>
      intro i g hi E e108
      have Xg : RX τ K g := RX_eq X (E.2 86 (by decide)).1
      obtain ⟨m, hm2, em⟩ := Rg_fm rg (show i < 12 by omega)
      have lv : s_Mod_level 0 (K (161 + 2 * i)) g = some (Lv (mk pF K) 0 (K (161 + 2 * i)) (mk pF K 39) (mk pF K 40)) := by
        rw [em]
        exact p_lv0 Xg hm2
      have ei : (161 : Int32) + 2 * nI i = nI (161 + 2 * i) := by rw [show (161 : Int32) = nI 161 from rfl, show (2 : Int32) = nI 2 from rfl, nI_mul, nI_add]
      have m0 : s_Mod_moonOf 0 (nI q) 0 g = some (K (6 + 3 * q)) := p_moonK Xg (c := 0) hq (by decide)
      have m2 : s_Mod_moonOf 0 (nI q) 2 g = some (K (6 + 3 * q + 2)) := p_moonK Xg (c := 2) hq (by decide)
      obtain ⟨h2, a1, a2⟩ := ih (i + 1) (sI g 108 i (flR (mk pD K) q i)) (by omega) (eqO_sI E (by decide)) (fun f hf => by
        rw [hI_sI']
        by_cases z : f = i
        · rw [if_pos ⟨rfl, z⟩, z]
        · rw [if_neg (fun w => z w.2)]; exact e108 f (by omega))
      refine ⟨h2, ?_, a2⟩
      rw [lp_inl (s' := (nI q, oI bt, K (7 + 3 * q), nI (i + 1), sI g 108 i (flR (mk pD K) q i))) ?_]
      · exact a1
      · show s_Mod_agrees_11 (nI q) (oI bt) (K (7 + 3 * q)) (nI i) g = _
        unfold s_Mod_agrees_11
        rw [ib_some _ (by decide) (by decide), show ix 188 = 188 by decide, Xg.1, ek, if_neg (by rw [nI_leI (by omega) (by omega)]; omega), ei, ib_nI (by omega) (by decide), show ix (nI (161 + 2 * i)) = 161 + 2 * i from nI_clamp (by omega), lt_eq, nI_1, ib_nI (by omega) (by decide), lv, Option.bind_some, m0, Option.bind_some, m2, Option.bind_some, p_moonAt g per0, Option.bind_some, ib_nI (by omega) (by decide), show ix (nI i) = i from nI_clamp (by omega), show ix (nI (161 + 2 * i + 1)) = 161 + 2 * i + 1 from nI_clamp (by omega), nI_1, show 161 + 2 * i + 1 = 162 + 2 * i by omega, flR_e hq (by omega), show 6 + 3 * q + 2 = 8 + 3 * q by omega]
  obtain ⟨h2, a1, a2⟩ := key k 0 h (by omega) (eqO_refl _ _) (fun f hf => absurd hf (by omega))
  refine ⟨h2, ?_, a2⟩
  have m1 : s_Mod_moonOf 0 (nI q) 1 h = some (K (7 + 3 * q)) := by
    have := p_moonK X (c := 1) hq (by decide)
    rw [show 6 + 3 * q + 1 = 7 + 3 * q by omega] at this
    exact this
  unfold s_Mod_agrees
  rw [m1, Option.bind_some]
  exact a1
theorem Dh_all {K : Nat → Int32} {q : Nat} : ∀ a b, a < 51 → b < npH (mk pD K) q → Dh 51 0 a b = Dp (npH (mk pD K) q) 0 a b := fun a b ha hb => by
  unfold Dh Dp
  rw [decide_eq_true ha, decide_eq_true hb]
  rfl
theorem ct_none {K : Nat → Int32} {q : Nat} : ctQ K q none (Dh 51 0) = flC (mk pD K) q [] := by rw [ctQ_none, pcs_cg Dh_all, pcs_all]
theorem ct_some {K : Nat → Int32} {q f : Nat} (hf : f < ix (mk pD K 188)) : ctQ K q (some f) (Dh 51 0) = flC (mk pD K) q [] + flC (mk pD K) q [f] := by rw [ctQ_some hf, pcs_cg Dh_all, pcs_cg Dh_all, pcs_all, pcs_all]
theorem RE_ag {T : TF} {K : Nat → Int32} {n : Nat} {h h2 : Hp} (E : eqO sAg h h2) (m : m84 agF h h2) (rc : RC T K n h) : RE T K n h h2 := by
  refine ⟨eqO_mono E (fun j hj => ?_), m84_mono m (fun k hk => ?_), RC_k rc (m 1 (by decide)) (m 28 (by decide)) (E.2 97 (by decide)).1 (E.2 99 (by decide)).1⟩
  · have := sRf_of hj
    unfold sAg
    rw [decide_eq_false (p := j = 84) (by omega), decide_eq_false (p := j = 108) (by omega)]
    rfl
  · unfold mnF at hk
    simp only [Bool.or_eq_true, decide_eq_true_eq] at hk
    exact agF_no (by omega)
theorem R_agree {τ : Nat → TF} {K : Nat → Int32} {n : Nat} {h : Hp} (x1 x2 : Int32) (X : RX τ K h) (rc : RC (tin τ K) K n h) : ∃ v h2, s_Mod_agree x1 x2 h = some (v, h2) ∧ AG x1 x2 K v ∧ RE (tin τ K) K n h h2 := by
  unfold s_Mod_agree s_Mod_agree_16 s_Mod_agree_94 AG
  rw [p_isMoonR, Option.bind_some]
  by_cases h1 : wi x1 0 3 = 0
  · rw [if_pos h1]; exact ⟨_, h, rfl, by rw [if_pos (Or.inl h1)], RE_refl rc⟩
  rw [if_neg h1, p_lies, Option.bind_some]
  by_cases h2 : wi x2 0 5 = 0
  · rw [if_pos h2]; exact ⟨_, h, rfl, by rw [if_pos (Or.inr h2)], RE_refl rc⟩
  rw [if_neg h2]
  obtain ⟨q, hq, rfl⟩ := wi_nat (b := 3) (by decide) (wi_n0 h1)
  obtain ⟨w, hw, rfl⟩ := wi_nat (b := 5) (by decide) (wi_n0 h2)
  obtain ⟨g, a1, a2, a3, a4, a5⟩ := p_agrees (bt := none) X (show q < 4 by omega) (fun f hf => by cases hf)
  have re := RE_ag a2 a3 rc
  have hno : ¬ (wi (nI q) 0 3 = 0 ∨ wi (nI w) 0 5 = 0) := by
    rintro (z | z)
    · exact h1 z
    · exact h2 z
  rw [ct_none] at a4
  obtain ⟨p, p1, p2, ep, en⟩ := npH_e X.2.1 (show q < 4 by omega)
  have fb : flC (mk pD K) q [] ≤ 10200 := flC_b (by omega)
  have a1 : s_Mod_agrees (nI q) (-1) h = some g := a1
  rw [a1, Option.bind_some, show ix (nI q) = q from nI_clamp (by omega), a4]
  have np : flC (mk pD K) q [] = 0 → (nI (flC (mk pD K) q []) = 0) := fun z => by rw [z]; rfl
  have pp : ¬ flC (mk pD K) q [] = 0 → ¬ (nI (flC (mk pD K) q []) = 0) := fun z => nI_ne0 (by omega) (by omega)
  have pr : ¬ flC (mk pD K) q [] = 0 → ∃ a b c d e, prA (mk pD K) q a b c d e ∧ hI g 84 40 = nI (10 * a) ∧ hI g 84 41 = nI (10 * b) ∧ hI g 84 42 = nI (10 * c) ∧ hI g 84 43 = nI (10 * d) ∧ hI g 84 44 = nI (10 * e) := by
    intro z
    have e := fun a b => (ipD_cg (K := mk pD K) (q := q) Dh_all a b).trans isP_all
    rcases a5 rfl with h1 | ⟨a, b, c, d, e1, ⟨p1, p2, p3, ⟨y1, p4⟩, ⟨x1, p5⟩, x2, p6⟩, h2⟩
    · exact absurd (flC_0.mpr (fun a b w => h1 a b ((e a b).mpr w))) z
    · exact ⟨a, b, c, d, e1, ⟨(e _ _).mp p1, fun x y w => p2 x y ((e _ _).mpr w), fun y w => p3 y ((e _ _).mpr w), ⟨y1, (e _ _).mp p4⟩, ⟨x1, (e _ _).mp p5⟩, x2, (e _ _).mp p6⟩, h2⟩
  rcases (show w = 0 ∨ w = 1 ∨ w = 2 ∨ w = 3 ∨ w = 4 ∨ w = 5 by omega) with rfl | rfl | rfl | rfl | rfl | rfl
  · rw [if_pos (show nI 0 = 0 from rfl)]
    exact ⟨_, g, rfl, by rw [if_neg hno, if_pos (show nI 0 = 0 from rfl)], re⟩
  · rw [if_neg (show ¬ nI 1 = 0 by decide)]
    by_cases z : flC (mk pD K) q [] = 0
    · rw [if_pos (np z)]
      exact ⟨_, g, rfl, by rw [if_neg hno, if_neg (show ¬ nI 1 = 0 by decide), if_pos z], re⟩
    · obtain ⟨a, b, c, d, e, r, f40, f41, f42, f43, f44⟩ := pr z
      rw [if_neg (pp z), if_pos (show nI 1 = 1 from rfl)]
      exact ⟨_, g, rfl, by rw [if_neg hno, if_neg (show ¬ nI 1 = 0 by decide), if_neg z]; exact ⟨a, b, c, d, e, r, f40⟩, re⟩
  · rw [if_neg (show ¬ nI 2 = 0 by decide)]
    by_cases z : flC (mk pD K) q [] = 0
    · rw [if_pos (np z)]
      exact ⟨_, g, rfl, by rw [if_neg hno, if_neg (show ¬ nI 2 = 0 by decide), if_pos z], re⟩
    · obtain ⟨a, b, c, d, e, r, f40, f41, f42, f43, f44⟩ := pr z
      rw [if_neg (pp z), if_neg (show ¬ nI 2 = 1 by decide), if_pos (show nI 2 = 2 from rfl)]
      exact ⟨_, g, rfl, by rw [if_neg hno, if_neg (show ¬ nI 2 = 0 by decide), if_neg z]; exact ⟨a, b, c, d, e, r, f41⟩, re⟩
  · rw [if_neg (show ¬ nI 3 = 0 by decide)]
    by_cases z : flC (mk pD K) q [] = 0
    · rw [if_pos (np z)]
      exact ⟨_, g, rfl, by rw [if_neg hno, if_neg (show ¬ nI 3 = 0 by decide), if_pos z], re⟩
    · obtain ⟨a, b, c, d, e, r, f40, f41, f42, f43, f44⟩ := pr z
      rw [if_neg (pp z), if_neg (show ¬ nI 3 = 1 by decide), if_neg (show ¬ nI 3 = 2 by decide), if_pos (show nI 3 = 3 from rfl)]
      exact ⟨_, g, rfl, by rw [if_neg hno, if_neg (show ¬ nI 3 = 0 by decide), if_neg z]; exact ⟨a, b, c, d, e, r, f42⟩, re⟩
  · rw [if_neg (show ¬ nI 4 = 0 by decide)]
    by_cases z : flC (mk pD K) q [] = 0
    · rw [if_pos (np z)]
      exact ⟨_, g, rfl, by rw [if_neg hno, if_neg (show ¬ nI 4 = 0 by decide), if_pos z], re⟩
    · obtain ⟨a, b, c, d, e, r, f40, f41, f42, f43, f44⟩ := pr z
      rw [if_neg (pp z), if_neg (show ¬ nI 4 = 1 by decide), if_neg (show ¬ nI 4 = 2 by decide), if_neg (show ¬ nI 4 = 3 by decide), if_pos (show nI 4 = 4 from rfl)]
      exact ⟨_, g, rfl, by rw [if_neg hno, if_neg (show ¬ nI 4 = 0 by decide), if_neg z]; exact ⟨a, b, c, d, e, r, f43⟩, re⟩
  · rw [if_neg (show ¬ nI 5 = 0 by decide)]
    by_cases z : flC (mk pD K) q [] = 0
    · rw [if_pos (np z)]
      exact ⟨_, g, rfl, by rw [if_neg hno, if_neg (show ¬ nI 5 = 0 by decide), if_pos z], re⟩
    · obtain ⟨a, b, c, d, e, r, f40, f41, f42, f43, f44⟩ := pr z
      rw [if_neg (pp z), if_neg (show ¬ nI 5 = 1 by decide), if_neg (show ¬ nI 5 = 2 by decide), if_neg (show ¬ nI 5 = 3 by decide), if_neg (show ¬ nI 5 = 4 by decide)]
      exact ⟨_, g, rfl, by rw [if_neg hno, if_neg (show ¬ nI 5 = 0 by decide), if_neg z]; exact ⟨a, b, c, d, e, r, f44⟩, re⟩
theorem Q_agree (n : Nat) (x1 x2 : Int32) (h : Hp) (_ : n < 512) (hi : Inv n h) : ∃ h2, q_agree x1 x2 h = some h2 ∧ Inv (n + 1) h2 := askR hi (AG x1 x2) (AG_u x1 x2) (fun _ _ X => C_agree x1 x2 X) (fun _ _ _ _ X rc => R_agree x1 x2 X rc)
theorem R_tells {τ : Nat → TF} {K : Nat → Int32} {n : Nat} {h : Hp} (x1 : Int32) (X : RX τ K h) (rc : RC (tin τ K) K n h) : ∃ h2, s_Mod_tells x1 h = some (aTells x1 (tin τ K) K, h2) ∧ RE (tin τ K) K n h h2 := by
  obtain ⟨k, hk, ek, ik⟩ := Rg_fl X.2.1
  have ik' : ix (mk pD K 188) = k := by rw [kd_eq' (j := 188) (Or.inr (Or.inr rfl))]; exact ik
  unfold s_Mod_tells aTells
  rw [p_isMoonR, Option.bind_some, ik]
  by_cases h1 : wi x1 0 3 = 0
  · rw [if_pos h1, if_pos h1]; exact ⟨h, rfl, RE_refl rc⟩
  rw [if_neg h1, if_neg h1]
  obtain ⟨q, hq, rfl⟩ := wi_nat (b := 3) (by decide) (wi_n0 h1)
  rw [show ix (nI q) = q from nI_clamp (by omega)]
  obtain ⟨p, p1, p2, ep, en⟩ := npH_e X.2.1 (show q < 4 by omega)
  have fb : ∀ l, flC (mk pD K) q l ≤ 10200 := fun l => flC_b (by omega)
  have ag : ∀ (g : Hp) (f : Nat), eqO sAg h g → m84 agF h g → f < k → ∃ g2, s_Mod_agrees (nI q) (nI f) g = some g2 ∧ eqO sAg h g2 ∧ m84 agF h g2 ∧ hI g2 84 39 = nI (flC (mk pD K) q [] + flC (mk pD K) q [f]) := by
    intro g f E M hf
    obtain ⟨g2, a1, a2, a3, a4, -⟩ := p_agrees (bt := some f) (h := g) (RX_eq X (E.2 86 (by decide)).1) (show q < 4 by omega) (fun f2 z => by cases z; omega)
    refine ⟨g2, a1, eqO_trans E a2, m84_trans M a3, ?_⟩
    rw [a4, ct_some (by omega)]
  have key : ∀ (d i : Nat) (g : Hp), i + 1 + d = k → eqO sAg h g → m84 agF h g → ∃ h2, lp (fun q : Int32 × Int32 × Int32 × Int32 × Hp => s_Mod_tells_16 q.1 q.2.1 q.2.2.1 q.2.2.2.1 q.2.2.2.2) (nI q, nI (mkN (fun f => flC (mk pD K) q [f]) i), nI (flC (mk pD K) q [] + flC (mk pD K) q [mkN (fun f => flC (mk pD K) q [f]) i]), nI (i + 1), g) = some (nI (mkN (fun f => flC (mk pD K) q [f]) (k - 1)), h2) ∧ eqO sAg h h2 ∧ m84 agF h h2 := by
    intro d
    induction d with
    | zero =>
      intro i g hi E M
      refine ⟨g, lp_inr ?_, E, M⟩
      show s_Mod_tells_16 (nI q) _ _ (nI (i + 1)) g = _
      unfold s_Mod_tells_16
      rw [ib_some _ (by decide) (by decide), show ix 188 = 188 by decide, (E.2 86 (by decide)).1, X.1, ek, if_pos (by rw [nI_leI (by omega) (by omega)]; omega), show k - 1 = i by omega]
    | succ d ih =>
      intro i g hi E M
      obtain ⟨g2, a1, a2, a3, a4⟩ := ag g (i + 1) E M (by omega)
      obtain ⟨h2, b1, b2⟩ := ih (i + 1) g2 (by omega) a2 a3
      have f0 := fb []
      have f1 := fb [i + 1]
      have f2 := fb [mkN (fun f => flC (mk pD K) q [f]) i]
      refine ⟨h2, ?_, b2⟩
      rw [lp_inl (s' := (nI q, nI (mkN (fun f => flC (mk pD K) q [f]) (i + 1)), nI (flC (mk pD K) q [] + flC (mk pD K) q [mkN (fun f => flC (mk pD K) q [f]) (i + 1)]), nI (i + 1 + 1), g2)) ?_]
      · exact b1
      · show s_Mod_tells_16 (nI q) (nI (mkN (fun f => flC (mk pD K) q [f]) i)) (nI (flC (mk pD K) q [] + flC (mk pD K) q [mkN (fun f => flC (mk pD K) q [f]) i])) (nI (i + 1)) g = _
        unfold s_Mod_tells_16 s_Mod_tells_55
        have eN : mkN (fun f => flC (mk pD K) q [f]) (i + 1) = if flC (mk pD K) q [mkN (fun f => flC (mk pD K) q [f]) i] < flC (mk pD K) q [i + 1] then i + 1 else mkN (fun f => flC (mk pD K) q [f]) i := rfl
        rw [ib_some _ (by decide) (by decide), show ix 188 = 188 by decide, (E.2 86 (by decide)).1, X.1, ek, if_neg (by rw [nI_leI (by omega) (by omega)]; omega), a1, Option.bind_some, a4, nI_1, eN]
        by_cases z : flC (mk pD K) q [mkN (fun f => flC (mk pD K) q [f]) i] < flC (mk pD K) q [i + 1]
        · rw [if_pos z, if_pos (by rw [nI_ltI (by omega) (by omega)]; omega)]
        · rw [if_neg z, if_neg (by rw [nI_ltI (by omega) (by omega)]; omega)]
  by_cases h2 : k = 0
  · rw [if_pos h2]
    refine ⟨h, lp_inr ?_, RE_refl rc⟩
    show s_Mod_tells_16 (nI q) (-1) (-1) 0 h = _
    unfold s_Mod_tells_16
    rw [ib_some _ (by decide) (by decide), show ix 188 = 188 by decide, X.1, ek, h2, if_pos (by decide)]
  · rw [if_neg h2]
    obtain ⟨g2, a1, a2, a3, a4⟩ := ag h 0 (eqO_refl _ _) (m84_refl _ _) (by omega)
    obtain ⟨h3, b1, b2, b3⟩ := key (k - 1) 0 g2 (by omega) a2 a3
    refine ⟨h3, ?_, RE_ag b2 b3 rc⟩
    have f0 := fb []
    have f1 := fb [0]
    have stp : s_Mod_tells_16 (nI q) (-1) (-1) 0 h = some (.inl (nI q, nI 0, nI (flC (mk pD K) q [] + flC (mk pD K) q [0]), nI (0 + 1), g2)) := by
      have a1 : s_Mod_agrees (nI q) 0 h = some g2 := a1
      unfold s_Mod_tells_16 s_Mod_tells_55
      rw [ib_some _ (by decide) (by decide), show ix 188 = 188 by decide, X.1, ek, if_neg (nI_nle (by omega) (by omega)), a1, Option.bind_some, a4, if_pos (by
        rw [Int32.lt_iff_toInt_lt, nI_toInt (by omega), show (-1 : Int32).toInt = -1 by decide]
        omega)]
      rfl
    rw [lp_inl stp]
    exact b1
theorem Q_tells (n : Nat) (x1 : Int32) (h : Hp) (_ : n < 512) (hi : Inv n h) : ∃ h2, q_tells x1 h = some h2 ∧ Inv (n + 1) h2 := ask hi (aTells x1) (fun _ _ X => C_tells x1 X) (fun _ _ _ _ X rc => R_tells x1 X rc)
