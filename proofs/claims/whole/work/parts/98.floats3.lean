/-! floats: the class's pairs -/
def SDg (K : Nat → Int32) (q : Nat) (D : Nat → Nat → Bool) (g : Hp) : Prop := hI g 74 6 = nI (pcs (mk pD K) q [] D) ∧ (∀ f, f < ix (K 188) → hI g 77 f = nI (pcs (mk pD K) q [f] D)) ∧ fdS (hI g 74) (mk pD K) q D
theorem fdS_F {F F2 : Nat → Int32} {K : Nat → Int32} {q : Nat} {D : Nat → Nat → Bool} (e : ∀ k, 7 ≤ k → k ≤ 11 → F2 k = F k) (H : fdS F K q D) : fdS F2 K q D := by
  unfold fdS
  rw [e 7 (by decide) (by decide), e 8 (by decide) (by decide), e 9 (by decide) (by decide), e 10 (by decide) (by decide), e 11 (by decide) (by decide)]
  exact H
theorem SDg_step {K : Nat → Int32} {q x y : Nat} {g : Hp} {D D2 : Nat → Nat → Bool} (rg : Rg K) (hq : q < 4) (hnp : npH (mk pD K) q ≤ 200) (X : SX K q y g) (hD : ∀ a b, D2 a b = true ↔ (D a b = true ∨ (a = x ∧ b = y))) (hno : D x y = false) (hx : x < 51) (hy : y < npH (mk pD K) q) (hy2 : ∀ u v, D u v = true → v ≤ y) (S : SDg K q D g) : ∃ g2, s_Soundings_weigh (nI (10 * x)) (nI (10 * y)) g = some g2 ∧ eqO (fun j => decide (j = 74) || decide (j = 77)) g g2 ∧ SDg K q D2 g2 ∧ hI g2 74 5 = hI g 74 5 := by
  obtain ⟨g2, a1, a2, a3, a4, a5⟩ := p_weigh (x := x) rg hq X
  obtain ⟨s1, s2, s3⟩ := S
  have st := fun l => pcs_step (K := mk pD K) (q := q) (l := l) hD hno hx hy
  refine ⟨g2, a1, a2, ?_, ?_⟩
  · by_cases z : flL (mk pD K) q x y = []
    · obtain ⟨b1, b2⟩ := a3 z
      refine ⟨?_, fun f hf => ?_, ?_⟩
      · rw [b1 6, st [], if_pos z, ← nI_1, ← s1]; rfl
      · rw [b2, st [f], if_neg (by rw [z]; intro w; cases w)]; exact s2 f hf
      · exact fdS_F (fun k _ _ => b1 k) (fdS_keep hD ⟨hx, hy, z⟩ hnp hy2 s3)
    · have nip : ¬ isP (mk pD K) q x y := fun w => z w.2.2
      by_cases w : ∃ f, flL (mk pD K) q x y = [f]
      · obtain ⟨f, hf⟩ := w
        obtain ⟨b1, b2⟩ := a4 f hf
        refine ⟨?_, fun i hi => ?_, ?_⟩
        · rw [b1, st [], if_neg z]; exact s1
        · rw [b2, st [i]]
          by_cases u : i = f
          · rw [if_pos u, u, if_pos hf, ← nI_1, ← s2 f (by rw [← u]; exact hi)]
          · rw [if_neg u, if_neg (by rw [hf]; intro t; cases t; exact u rfl)]; exact s2 i hi
        · rw [b1]; exact fdS_skip hD nip s3
      · have w : ∀ f, flL (mk pD K) q x y ≠ [f] := fun f t => w ⟨f, t⟩
        rw [a5 ⟨z, w⟩]
        exact ⟨by rw [st [], if_neg z]; exact s1, fun f hf => by rw [st [f], if_neg (w f)]; exact s2 f hf, fdS_skip hD nip s3⟩
  · by_cases z : flL (mk pD K) q x y = []
    · rw [(a3 z).1 5]; rfl
    · by_cases w : ∃ f, flL (mk pD K) q x y = [f]
      · obtain ⟨f, hf⟩ := w
        rw [(a4 f hf).1]
      · rw [a5 ⟨z, fun f t => w ⟨f, t⟩⟩]
def Dp (y x a b : Nat) : Bool := decide (b < y) || (decide (b = y) && decide (a < x))
theorem Dp_s (y x a b : Nat) : Dp y (x + 1) a b = true ↔ (Dp y x a b = true ∨ (a = x ∧ b = y)) := by
  unfold Dp
  simp only [Bool.or_eq_true, Bool.and_eq_true, decide_eq_true_eq]
  omega
theorem Dp_e (y a b : Nat) (ha : a < 51) : Dp y 51 a b = Dp (y + 1) 0 a b := by
  unfold Dp
  by_cases h : b < y
  · rw [decide_eq_true h, decide_eq_true (p := b < y + 1) (by omega)]; rfl
  · by_cases h2 : b = y
    · rw [decide_eq_true h2, decide_eq_true (p := b < y + 1) (by omega), decide_eq_true ha]; simp
    · rw [decide_eq_false h, decide_eq_false h2, decide_eq_false (p := b < y + 1) (by omega)]; simp
theorem smN_cg {f g : Nat → Nat} : ∀ n, (∀ i, i < n → f i = g i) → smN f n = smN g n
  | 0, _ => rfl
  | n + 1, h => by unfold smN; rw [smN_cg n (fun i hi => h i (by omega)), h n (by omega)]
theorem pcs_cg {K : Nat → Int32} {q : Nat} {l : List Nat} {D D2 : Nat → Nat → Bool} (h : ∀ a b, a < 51 → b < npH K q → D2 a b = D a b) : pcs K q l D2 = pcs K q l D := smN_cg _ (fun b hb => smN_cg _ (fun a ha => by rw [h a b ha hb]))
theorem ipD_cg {K : Nat → Int32} {q : Nat} {D D2 : Nat → Nat → Bool} (h : ∀ a b, a < 51 → b < npH K q → D2 a b = D a b) (a b : Nat) : ipD K q D2 a b ↔ ipD K q D a b := by
  unfold ipD
  constructor
  · rintro ⟨p, d⟩; exact ⟨p, by rw [← h a b p.1 p.2.1]; exact d⟩
  · rintro ⟨p, d⟩; exact ⟨p, by rw [h a b p.1 p.2.1]; exact d⟩
theorem fdS_cg {F : Nat → Int32} {K : Nat → Int32} {q : Nat} {D D2 : Nat → Nat → Bool} (h : ∀ a b, a < 51 → b < npH K q → D2 a b = D a b) (H : fdS F K q D) : fdS F K q D2 := by
  have e := ipD_cg h
  rcases H with ⟨h1, h2⟩ | ⟨a, b, c, d, e1, ⟨p1, p2, p3, ⟨y1, p4⟩, ⟨x1, p5⟩, x2, p6⟩, h2⟩
  · exact Or.inl ⟨fun a b z => h1 a b ((e a b).mp z), h2⟩
  · exact Or.inr ⟨a, b, c, d, e1, ⟨(e _ _).mpr p1, fun x y z => p2 x y ((e _ _).mp z), fun y z => p3 y ((e _ _).mp z), ⟨y1, (e _ _).mpr p4⟩, ⟨x1, (e _ _).mpr p5⟩, x2, (e _ _).mpr p6⟩, h2⟩
theorem SDg_cg {K : Nat → Int32} {q : Nat} {D D2 : Nat → Nat → Bool} {g : Hp} (h : ∀ a b, a < 51 → b < npH (mk pD K) q → D2 a b = D a b) (S : SDg K q D g) : SDg K q D2 g := ⟨by rw [pcs_cg h]; exact S.1, fun f hf => by rw [pcs_cg h]; exact S.2.1 f hf, fdS_cg h S.2.2⟩
theorem SDg_n {K : Nat → Int32} {q : Nat} {D : Nat → Nat → Bool} {g g2 : Hp} (h74 : ∀ k, 6 ≤ k → k ≤ 11 → hI g2 74 k = hI g 74 k) (h77 : hI g2 77 = hI g 77) (S : SDg K q D g) : SDg K q D g2 := ⟨by rw [h74 6 (by decide) (by decide)]; exact S.1, by rw [h77]; exact S.2.1, fdS_F (fun k h1 h2 => h74 k (by omega) h2) S.2.2⟩
def sFl (j : Nat) : Bool := decide (j = 74) || decide (j = 75) || decide (j = 76) || decide (j = 77)
theorem sFl_no {j : Nat} (h : j < 74 ∨ 77 < j) : sFl j = false := by
  unfold sFl
  rw [decide_eq_false (p := j = 74) (by omega), decide_eq_false (p := j = 75) (by omega), decide_eq_false (p := j = 76) (by omega), decide_eq_false (p := j = 77) (by omega)]
  rfl
theorem StP_fl {K : Nat → Int32} {h g : Hp} (st : StP K h 1) (E : eqO sFl h g) : StP K g 1 := StP_eq E (fun j h1 h2 => sFl_no (by omega)) st
theorem p_fl197 {K : Nat → Int32} {q y : Nat} {h : Hp} {v1 : Int32} {per : Int32} (rg : Rg K) (hq : q < 4) (hnp : npH (mk pD K) q ≤ 200) (hy : y < npH (mk pD K) q) (st : StP K h 1) :
    ∀ (d x : Nat) (g : Hp), x + d = 51 → eqO sFl h g → SX K q y g → SDg K q (Dp y x) g → hI g 74 5 = hI h 74 5 → ∃ g2, lp (fun q : Int32 × Int32 × Int32 × Int32 × Hp => s_Soundings_freshen_197 q.1 q.2.1 q.2.2.1 q.2.2.2.1 q.2.2.2.2) (v1, per, nI (10 * y), nI (10 * x), g) = some (.inl (v1, per, nI (10 * (y + 1)), g2)) ∧ eqO sFl h g2 ∧ (∀ f, f < ix (K 188) → hI g2 75 f = flR (mk pD K) q f) ∧ SDg K q (Dp (y + 1) 0) g2 ∧ hI g2 74 5 = hI h 74 5 := by
  intro d
  induction d with
  | zero =>
    intro x g hx E X S e5
    have hx : x = 51 := by omega
    subst hx
    refine ⟨g, lp_inr ?_, E, X.2.1, SDg_cg (fun a b ha hb => (Dp_e y a b ha).symm) S, e5⟩
    show s_Soundings_freshen_197 v1 per (nI (10 * y)) (nI 510) g = _
    unfold s_Soundings_freshen_197
    rw [if_pos (show (500 : Int32) < nI 510 by decide), show (10 : Int32) = nI 10 from rfl, nI_add, show 10 * y + 10 = 10 * (y + 1) by omega]
  | succ d ih =>
    intro x g hx E X S e5
    have noD : Dp y x x y = false := by
      unfold Dp
      rw [decide_eq_false (p := y < y) (by omega), decide_eq_false (p := x < x) (by omega), Bool.and_false]
      rfl
    obtain ⟨g2, a1, a2, a3, a4⟩ := SDg_step (x := x) (y := y) rg hq hnp X (Dp_s y x) noD (by omega) hy (fun u v z => by
      unfold Dp at z
      simp only [Bool.or_eq_true, Bool.and_eq_true, decide_eq_true_eq] at z
      omega) S
    have E2 : eqO sFl g g2 := eqO_mono a2 (fun j hj => by
      unfold sFl at hj
      simp only [Bool.or_eq_false_iff, decide_eq_false_iff_not] at hj
      rw [decide_eq_false hj.1.1.1, decide_eq_false hj.2]
      rfl)
    obtain ⟨g3, b1, b2⟩ := ih (x + 1) g2 (by omega) (eqO_trans E E2) ⟨StP_fl X.1 E2, by rw [(a2.2 75 (by decide)).1]; exact X.2.1, by rw [(a2.2 76 (by decide)).1]; exact X.2.2⟩ a3 (a4.trans e5)
    refine ⟨g3, ?_, b2⟩
    rw [lp_inl (s' := (v1, per, nI (10 * y), nI (10 * (x + 1)), g2)) ?_]
    · exact b1
    · show s_Soundings_freshen_197 v1 per (nI (10 * y)) (nI (10 * x)) g = _
      unfold s_Soundings_freshen_197
      rw [if_neg (by rw [show (500 : Int32) = nI 500 from rfl, nI_ltI (by decide) (by omega)]; omega), a1, Option.bind_some, show (10 : Int32) = nI 10 from rfl, nI_add, show 10 * x + 10 = 10 * (x + 1) by omega]
theorem Rg_fm {K : Nat → Int32} (rg : Rg K) {f : Nat} (hf : f < 12) : ∃ m, m < 1440 ∧ K (161 + 2 * f) = nI m := by
  obtain ⟨m, hm, e⟩ := Rg_nat rg (j := 161 + 2 * f) (b := 1439) (by omega) (rj_fmin f hf) (by decide)
  exact ⟨m, by omega, e⟩
theorem p_fl153 {K : Nat → Int32} {q y : Nat} {h : Hp} {v1 : Int32} (rg : Rg K) (hq : q < 4) (hnp : npH (mk pD K) q ≤ 200) (hy : y < npH (mk pD K) q) (st : StP K h 1) :
    ∀ (d i : Nat) (g : Hp), i + d = ix (K 188) → eqO sFl h g → (∀ f, f < ix (K 188) → hI g 75 f = flR (mk pD K) q f) → (∀ f, f < i → hI g 76 f = wv (z_rem (K (161 + 2 * f) + nI (10 * y)) (K (7 + 3 * q))) (K (7 + 3 * q))) → SDg K q (Dp y 0) g → hI g 74 5 = hI h 74 5 → ∃ g2, lp (fun q : Int32 × Int32 × Int32 × Int32 × Hp => s_Soundings_freshen_153 q.1 q.2.1 q.2.2.1 q.2.2.2.1 q.2.2.2.2) (v1, K (7 + 3 * q), nI (10 * y), nI i, g) = some (.inl (v1, K (7 + 3 * q), nI (10 * (y + 1)), g2)) ∧ eqO sFl h g2 ∧ (∀ f, f < ix (K 188) → hI g2 75 f = flR (mk pD K) q f) ∧ SDg K q (Dp (y + 1) 0) g2 ∧ hI g2 74 5 = hI h 74 5 := by
  obtain ⟨k, hk, ek, ik⟩ := Rg_fl rg
  have per0 : ¬ K (7 + 3 * q) = 0 := by
    have := Rg_per0 rg 0 q (by decide) hq
    rwa [Nat.mul_zero, Nat.add_zero] at this
  intro d
  induction d with
  | zero =>
    intro i g hi E e75 e76 S e5
    have hi : i = k := by omega
    subst hi
    have sg := StP_fl st E
    obtain ⟨g2, a1, a2⟩ := p_fl197 (v1 := v1) (per := K (7 + 3 * q)) rg hq hnp hy st 51 0 g (by decide) E ⟨sg, e75, by rw [ik]; exact e76⟩ S e5
    refine ⟨g2, lp_inr ?_, a2⟩
    show s_Soundings_freshen_153 v1 (K (7 + 3 * q)) (nI (10 * y)) (nI i) g = _
    unfold s_Soundings_freshen_153
    rw [show hI g 1 18 = nI i from (StP_at sg (by decide) (show pl 188 = (0, 18) by decide)).trans ek, if_pos (Int32.le_refl _)]
    have a1 : lp (fun q : Int32 × Int32 × Int32 × Int32 × Hp => s_Soundings_freshen_197 q.1 q.2.1 q.2.2.1 q.2.2.2.1 q.2.2.2.2) (v1, K (7 + 3 * q), nI (10 * y), (0 : Int32), g) = _ := a1
    rw [a1]
    rfl
  | succ d ih =>
    intro i g hi E e75 e76 S e5
    have sg := StP_fl st E
    have e13 : hI g 13 i = K (161 + 2 * i) := StP_at sg (by omega) (pl_fmin i (by omega))
    obtain ⟨g2, a1, a2⟩ := ih (i + 1) (sI g 76 i (wv (z_rem (K (161 + 2 * i) + nI (10 * y)) (K (7 + 3 * q))) (K (7 + 3 * q)))) (by omega) (eqO_sI E (by decide)) (by rw [hI_sI_ne (by decide)]; exact e75) (fun f hf => by
      rw [hI_sI']
      by_cases z : f = i
      · rw [if_pos ⟨rfl, z⟩, z]
      · rw [if_neg (fun u => z u.2)]; exact e76 f (by omega)) (SDg_n (fun k _ _ => by rw [hI_sI_ne (by decide)]) (hI_sI_ne (by decide)) S) (by rw [hI_sI_ne (by decide)]; exact e5)
    refine ⟨g2, ?_, a2⟩
    rw [lp_inl (s' := (v1, K (7 + 3 * q), nI (10 * y), nI (i + 1), sI g 76 i (wv (z_rem (K (161 + 2 * i) + nI (10 * y)) (K (7 + 3 * q))) (K (7 + 3 * q))))) ?_]
    · exact a1
    · show s_Soundings_freshen_153 v1 (K (7 + 3 * q)) (nI (10 * y)) (nI i) g = _
      unfold s_Soundings_freshen_153
      rw [show hI g 1 18 = nI k from (StP_at sg (by decide) (show pl 188 = (0, 18) by decide)).trans ek, if_neg (by rw [nI_leI (by omega) (by omega)]; omega), ib_nI (by omega) (by decide), show ix (nI i) = i from nI_clamp (by omega), e13, p_raceWave g per0, Option.bind_some, ib_nI (by omega) (by decide), nI_1]
theorem npH_e {K : Nat → Int32} (rg : Rg K) {q : Nat} (hq : q < 4) : ∃ p, 60 ≤ p ∧ p ≤ 2000 ∧ K (7 + 3 * q) = nI p ∧ npH (mk pD K) q = (p + 9) / 10 := by
  obtain ⟨-, ⟨b, b1, b2, e⟩, -⟩ := kf_moonN rg (e := 0) (k := q) (by decide) hq
  rw [Nat.mul_zero, Nat.add_zero, kf_eq (by omega)] at e
  refine ⟨b, b1, b2, e, ?_⟩
  unfold npH
  rw [kd_eq' (Or.inl (by omega)), e, show ix (nI b) = b from nI_clamp (by omega)]
theorem p_fl144 {K : Nat → Int32} {q : Nat} {h : Hp} {v1 : Int32} (rg : Rg K) (hq : q < 4) (st : StP K h 1) :
    ∀ (d y : Nat) (g : Hp), y + d = npH (mk pD K) q → eqO sFl h g → (∀ f, f < ix (K 188) → hI g 75 f = flR (mk pD K) q f) → SDg K q (Dp y 0) g → hI g 74 5 = hI h 74 5 → ∃ g2, lp (fun q : Int32 × Int32 × Int32 × Hp => s_Soundings_freshen_144 q.1 q.2.1 q.2.2.1 q.2.2.2) (v1, K (7 + 3 * q), nI (10 * y), g) = some g2 ∧ eqO sFl h g2 ∧ SDg K q (Dp (npH (mk pD K) q) 0) g2 ∧ hI g2 74 5 = v1 := by
  obtain ⟨p, p1, p2, ep, en⟩ := npH_e rg hq
  have hnp : npH (mk pD K) q ≤ 200 := by omega
  intro d
  induction d with
  | zero =>
    intro y g hy E e75 S e5
    have hy : y = npH (mk pD K) q := by omega
    refine ⟨sI g 74 5 v1, lp_inr ?_, eqO_sI E (by decide), SDg_n (fun k h1 h2 => by rw [hI_sI', if_neg (by omega)]) (hI_sI_ne (by decide)) (by rw [← hy]; exact S), by rw [hI_sI', if_pos ⟨rfl, rfl⟩]⟩
    show s_Soundings_freshen_144 v1 (K (7 + 3 * q)) (nI (10 * y)) g = _
    unfold s_Soundings_freshen_144
    rw [ep, if_pos (by rw [nI_leI (by omega) (by omega)]; omega)]
  | succ d ih =>
    intro y g hy E e75 S e5
    obtain ⟨g2, a1, a2, a3, a4, a5⟩ := p_fl153 (v1 := v1) rg hq hnp (show y < npH (mk pD K) q by omega) st (ix (K 188)) 0 g (by omega) E e75 (fun f hf => absurd hf (by omega)) S e5
    obtain ⟨g3, b1, b2⟩ := ih (y + 1) g2 (by omega) a2 a3 a4 a5
    refine ⟨g3, ?_, b2⟩
    rw [lp_inl (s' := (v1, K (7 + 3 * q), nI (10 * (y + 1)), g2)) ?_]
    · exact b1
    · show s_Soundings_freshen_144 v1 (K (7 + 3 * q)) (nI (10 * y)) g = _
      unfold s_Soundings_freshen_144
      rw [if_neg (by rw [ep, nI_leI (by omega) (by omega)]; omega)]
      exact a1
theorem pcs_all {K : Nat → Int32} {q : Nat} {l : List Nat} : pcs K q l (Dp (npH K q) 0) = flC K q l := by
  unfold pcs flC
  rw [← smN_swap (fun a b => if Dp (npH K q) 0 a b = true ∧ flL K q a b = l then 1 else 0) (npH K q) 51]
  refine smN_cg _ (fun a ha => smN_cg _ (fun b hb => ?_))
  have : Dp (npH K q) 0 a b = true := by
    unfold Dp
    rw [decide_eq_true hb]; rfl
  by_cases z : flL K q a b = l
  · rw [if_pos ⟨this, z⟩, if_pos z]
  · rw [if_neg (fun u => z u.2), if_neg z]
theorem isP_all {K : Nat → Int32} {q a b : Nat} : ipD K q (Dp (npH K q) 0) a b ↔ isP K q a b := by
  unfold ipD
  refine ⟨fun z => z.1, fun z => ⟨z, ?_⟩⟩
  unfold Dp
  rw [decide_eq_true z.2.1]; rfl
theorem flC_0 {K : Nat → Int32} {q : Nat} : flC K q [] = 0 ↔ ∀ a b, ¬ isP K q a b := by
  constructor
  · intro z a b p
    unfold flC at z
    have h1 := smN_at (v := fun a => smN (fun b => if flL K q a b = [] then 1 else 0) (npH K q)) 51 a p.1
    have h2 := smN_at (v := fun b => if flL K q a b = [] then 1 else 0) (npH K q) b p.2.1
    rw [if_pos p.2.2] at h2
    have h1 : smN (fun b => if flL K q a b = [] then 1 else 0) (npH K q) ≤ smN (fun a => smN (fun b => if flL K q a b = [] then 1 else 0) (npH K q)) 51 := h1
    omega
  · intro z
    unfold flC
    exact smN_0 _ (fun a ha => smN_0 _ (fun b hb => if_neg (fun w => z a b ⟨ha, hb, w⟩)))
theorem sdOK_of {K : Nat → Int32} {q : Nat} {g : Hp} (S : SDg K q (Dp (npH (mk pD K) q) 0) g) : sdOK (mk pD K) q g := by
  obtain ⟨s1, s2, s3⟩ := S
  rw [pcs_all] at s1
  refine ⟨s1, fun f hf => ?_, fun z => ?_, fun z => ?_⟩
  · rw [kd_eq' (j := 188) (Or.inr (Or.inr rfl))] at hf
    have := s2 f hf
    rwa [pcs_all] at this
  · have np := flC_0.mp z
    rcases s3 with ⟨-, h2⟩ | ⟨a, b, c, d, e, pr, -⟩
    · exact h2
    · exact absurd pr.1.1 (np a e)
  · rcases s3 with ⟨h1, -⟩ | ⟨a, b, c, d, e, ⟨p1, p2, p3, ⟨y1, p4⟩, ⟨x1, p5⟩, x2, p6⟩, f7, f8, f9, f10, f11⟩
    · exact absurd (flC_0.mpr (fun a b w => h1 a b (isP_all.mpr w))) z
    · exact ⟨a, b, c, d, e, f7, f8, f9, f10, f11, p1.1, fun x y w => p2 x y (isP_all.mpr w), fun y w => p3 y (isP_all.mpr w), ⟨y1, p4.1⟩, ⟨x1, p5.1⟩, x2, p6.1⟩
