/-! floats: the class's soundings -/
theorem QX_fl {τ : Nat → TF} {K : Nat → Int32} {h g : Hp} (X : QX τ K h) (E : eqO sFl h g) (c74 : C74 K g) : QX τ K g := by
  obtain ⟨⟨st, rg, rw0, cc⟩, lw⟩ := X
  have f : ∀ j, j < 74 ∨ 77 < j → hI g j = hI h j := fun j hj => (E.2 j (sFl_no hj)).1
  have hr := hR_of E.1
  exact ⟨⟨StP_fl st E, rg, RW_eq E.1 rw0, CF_eq (f 50 (by decide)) (f 54 (by decide)) (f 57 (by decide)) (f 58 (by decide)) (f 59 (by decide)) (f 60 (by decide)) (f 78 (by decide)) (f 79 (by decide)) (E.2 56 (by decide)).2 (by rw [hr]) (by rw [hr]) (fun r z => f r (by have : 114 ≤ r := (rw0.1 r z).1; omega)) (fun r z => f r (by have : 114 ≤ r := (rw0.2.1 r z).1; omega)) cc.1, C69_eq (f 69 (by decide)) (f 72 (by decide)) (f 73 (by decide)) rfl rfl cc.2.1, c74⟩, LW_eq E (fun j hj _ => sFl_no (by have : 114 ≤ j := hj; omega)) lw⟩
theorem sFl_sC (j : Nat) (h : sC j = false) : sFl j = false := by
  unfold sC at h
  simp only [Bool.and_eq_false_iff, decide_eq_false_iff_not] at h
  exact sFl_no (by omega)
theorem flR_e {K : Nat → Int32} {q f : Nat} (hq : q < 4) (hf : f < 12) : flR (mk pD K) q f = K (162 + 2 * f) - Lv (mk pF K) 0 (K (161 + 2 * f)) (mk pF K 39) (mk pF K 40) + mnA (K (6 + 3 * q)) (K (7 + 3 * q)) (K (8 + 3 * q)) (K (161 + 2 * f)) := by
  unfold flR
  rw [kd_eq' (j := 162 + 2 * f) (Or.inr (Or.inl (by omega))), kd_eq' (j := 161 + 2 * f) (Or.inr (Or.inl (by omega))), kd_eq' (j := 39) (Or.inl (by decide)), kd_eq' (j := 40) (Or.inl (by decide)), kd_eq' (j := 6 + 3 * q) (Or.inl (by omega)), kd_eq' (j := 7 + 3 * q) (Or.inl (by omega)), kd_eq' (j := 8 + 3 * q) (Or.inl (by omega)), kf_eq (by decide), kf_eq (by decide), Lv_congr (K := K) (K2 := mk pD K) (fun j hj => kd_eq' (Or.inl (by omega))) (by decide), Lv_congr (K := K) (K2 := mk pF K) (fun j hj => kf_eq (by omega)) (by decide)]
theorem SDg_0 {K : Nat → Int32} {q : Nat} {g : Hp} (e6 : hI g 74 6 = 0) (e77 : ∀ f, f < 12 → hI g 77 f = 0) (rg : Rg K) (ef : ∀ k, 7 ≤ k → k ≤ 11 → hI g 74 k = -1) : SDg K q (Dp 0 0) g := by
  have d0 : ∀ a b, Dp 0 0 a b = false := fun a b => by
    unfold Dp
    rw [decide_eq_false (p := b < 0) (by omega), decide_eq_false (p := a < 0) (by omega), Bool.and_false]; rfl
  have p0 : ∀ l, pcs (mk pD K) q l (Dp 0 0) = 0 := fun l => smN_0 _ (fun b _ => smN_0 _ (fun a _ => if_neg (fun z => by rw [d0] at z; cases z.1)))
  obtain ⟨k, hk, ek, ik⟩ := Rg_fl rg
  refine ⟨by rw [p0]; exact e6, fun f hf => by rw [p0]; exact e77 f (by omega), Or.inl ⟨fun x y z => ?_, ef 7 (by decide) (by decide), ef 8 (by decide) (by decide), ef 9 (by decide) (by decide), ef 10 (by decide) (by decide), ef 11 (by decide) (by decide)⟩⟩
  have := z.2
  rw [d0] at this
  cases this
theorem p_sound {τ : Nat → TF} {K : Nat → Int32} {h : Hp} {q : Nat} (hq : q < 4) (X : QX τ K h) : ∃ h1, s_Soundings_freshen (nI q) h = some h1 ∧ eqO sC h h1 ∧ QX τ K h1 ∧ sdOK (mk pD K) q h1 := by
  have rg := X.1.2.1
  obtain ⟨k, hk, ek, ik⟩ := Rg_fl rg
  by_cases hm : hI h 74 5 = nI q
  · rcases X.1.2.2.2.2.2 with c | ⟨q2, c1, c2, c3⟩
    · rw [hm] at c
      exact absurd c (nI_m1 (by omega))
    · rw [hm, nI_eq (by omega) (by omega)] at c2
      subst c2
      refine ⟨h, ?_, eqO_refl _ _, X, c3⟩
      unfold s_Soundings_freshen
      rw [if_pos hm]
  · obtain ⟨u, t1, t2, t3, t4, t5⟩ := CX_ft X.1
    have Xu : QX τ K u := ⟨t3, LW_eq t2 (fun j hj _ => by
      have : 114 ≤ j := hj
      unfold sFT
      rw [decide_eq_false (p := j = 50) (by omega), decide_eq_false (p := j = 54) (by omega)]
      rfl) X.2⟩
    have st := Xu.1.1
    have per0 : ¬ K (7 + 3 * q) = 0 := by
      have := Rg_per0 rg 0 q (by decide) hq
      rwa [Nat.mul_zero, Nat.add_zero] at this
    obtain ⟨p, p1, p2, ep, en⟩ := npH_e rg hq
    have m3 : ∀ (g : Hp), StP K g 1 → ∀ c, c < 3 → hI g 3 (3 * q + c) = K (6 + 3 * q + c) := fun g sg c hc => by
      have := StP_at sg (j := 6 + (3 * q + c)) (by omega) (pl_moon (3 * q + c) (by omega))
      rwa [show 6 + (3 * q + c) = 6 + 3 * q + c by omega] at this
    have key : ∀ (d i : Nat) (g : Hp), i + d = k → eqO sFl u g → (∀ f, f < i → hI g 75 f = flR (mk pD K) q f) → hI g 74 5 = hI u 74 5 → ∃ g2, lp (fun q : Int32 × Int32 × Int32 × Int32 × Hp => s_Soundings_freshen_41 q.1 q.2.1 q.2.2.1 q.2.2.2.1 q.2.2.2.2) (nI q, nI (3 * q), K (7 + 3 * q), nI i, g) = some g2 ∧ eqO sFl u g2 ∧ SDg K q (Dp (npH (mk pD K) q) 0) g2 ∧ hI g2 74 5 = nI q := by
      intro d
      induction d with
      | zero =>
        intro i g hi E e75 e5
        have hi : i = k := by omega
        subst hi
        have sg := StP_fl st E
        have n77 : nd g 77 0 12 := nd_of (by decide) rfl
        have Ef : eqO sFl u (sI (sI (sI (sI (sI (sI (wI g 77 (fun k => if k < 12 then 0 else hI g 77 k)) 74 6 0) 74 7 (-1)) 74 8 (-1)) 74 9 (-1)) 74 10 (-1)) 74 11 (-1)) := eqO_sI (eqO_sI (eqO_sI (eqO_sI (eqO_sI (eqO_sI (eqO_wI E (by decide)) (by decide)) (by decide)) (by decide)) (by decide)) (by decide)) (by decide)
        obtain ⟨g2, a1, a2, a3, a4⟩ := p_fl144 (v1 := nI q) rg hq st (npH (mk pD K) q) 0 _ (by omega) Ef (fun f hf => by
          rw [hI_sI_ne (by decide), hI_sI_ne (by decide), hI_sI_ne (by decide), hI_sI_ne (by decide), hI_sI_ne (by decide), hI_sI_ne (by decide), hI_wI_ne (by decide)]
          exact e75 f (by omega)) (SDg_0 (by simp [hI_sI']) (fun f hf => by
          rw [hI_sI_ne (by decide), hI_sI_ne (by decide), hI_sI_ne (by decide), hI_sI_ne (by decide), hI_sI_ne (by decide), hI_sI_ne (by decide), hI_wI, if_pos hf]) rg (fun k h1 h2 => by
          rcases (show k = 7 ∨ k = 8 ∨ k = 9 ∨ k = 10 ∨ k = 11 by omega) with rfl | rfl | rfl | rfl | rfl <;> simp [hI_sI'])) (by
          rw [hI_sI', if_neg (by decide), hI_sI', if_neg (by decide), hI_sI', if_neg (by decide), hI_sI', if_neg (by decide), hI_sI', if_neg (by decide), hI_sI', if_neg (by decide), hI_wI_ne (by decide)]
          exact e5)
        refine ⟨g2, lp_inr ?_, a2, a3, a4⟩
        show s_Soundings_freshen_41 (nI q) (nI (3 * q)) (K (7 + 3 * q)) (nI i) g = _
        unfold s_Soundings_freshen_41 s_Soundings_forgetPairs
        rw [show hI g 1 18 = nI i from (StP_at sg (by decide) (show pl 188 = (0, 18) by decide)).trans ek, if_pos (Int32.le_refl _), p_fillI n77 (by decide), Option.bind_some, Option.bind_some]
        have a1 : lp (fun q : Int32 × Int32 × Int32 × Hp => s_Soundings_freshen_144 q.1 q.2.1 q.2.2.1 q.2.2.2) (nI q, K (7 + 3 * q), (0 : Int32), _) = _ := a1
        rw [a1]
        rfl
      | succ d ih =>
        intro i g hi E e75 e5
        have sg := StP_fl st E
        obtain ⟨m, hm2, em⟩ := Rg_fm rg (show i < 12 by omega)
        have e13 : hI g 13 i = K (161 + 2 * i) := StP_at sg (by omega) (pl_fmin i (by omega))
        have e14 : hI g 14 i = K (162 + 2 * i) := StP_at sg (by omega) (pl_flev i (by omega))
        have tdg : TdOK (mk pF K) g := by
          unfold TdOK
          rw [(E.2 54 (by decide)).1]
          exact t5
        have l0 : s_Water_levelToday 0 (K (161 + 2 * i)) g = some (Lv (mk pF K) 0 (K (161 + 2 * i)) (mk pF K 39) (mk pF K 40)) := by
          rw [em]
          exact p_levelToday tdg (kf_sea sg) (kf_term sg) (e := 0) (by decide) hm2
        obtain ⟨g2, a1, a2⟩ := ih (i + 1) (sI g 75 i (flR (mk pD K) q i)) (by omega) (eqO_sI E (by decide)) (fun f hf => by
          rw [hI_sI']
          by_cases z : f = i
          · rw [if_pos ⟨rfl, z⟩, z]
          · rw [if_neg (fun w => z w.2)]; exact e75 f (by omega)) (by rw [hI_sI_ne (by decide)]; exact e5)
        refine ⟨g2, ?_, a2⟩
        rw [lp_inl (s' := (nI q, nI (3 * q), K (7 + 3 * q), nI (i + 1), sI g 75 i (flR (mk pD K) q i))) ?_]
        · exact a1
        · show s_Soundings_freshen_41 (nI q) (nI (3 * q)) (K (7 + 3 * q)) (nI i) g = _
          unfold s_Soundings_freshen_41
          rw [show hI g 1 18 = nI k from (StP_at sg (by decide) (show pl 188 = (0, 18) by decide)).trans ek, if_neg (by rw [nI_leI (by omega) (by omega)]; omega), ib_nI (by omega) (by decide), Int32.add_zero, ib_nI (by omega) (by decide), show nI (3 * q) + 2 = nI (3 * q + 2) from nI_add (3 * q) 2, ib_nI (by omega) (by decide), show ix (nI i) = i from nI_clamp (by omega), show ix (nI (3 * q + 2)) = 3 * q + 2 from nI_clamp (by omega), show ix (nI (3 * q)) = 3 * q from nI_clamp (by omega), m3 g sg 2 (by decide), e13, p_raceWave g per0, Option.bind_some, lt_eq, ib_nI (by omega) (by decide), l0, Option.bind_some, ib_nI (by omega) (by decide), e14, show hI g 3 (3 * q) = K (6 + 3 * q) from m3 g sg 0 (by decide), nI_1, sub_sub_r, flR_e hq (by omega), show 6 + 3 * q + 2 = 8 + 3 * q by omega]
          rfl
    obtain ⟨g2, a1, a2, a3, a4⟩ := key k 0 u (by omega) (eqO_refl _ _) (fun f hf => absurd hf (by omega)) rfl
    have so := sdOK_of a3
    refine ⟨g2, ?_, eqO_trans (eqO_mono t2 sFT_sC) (eqO_mono a2 sFl_sC), QX_fl Xu a2 (Or.inr ⟨q, hq, a4, so⟩), so⟩
    have mp : s_Race_moonPlace 0 (nI q) h = some (nI (3 * q)) := by
      have := p_moonPlace 0 q h
      rwa [Nat.mul_zero, Nat.zero_add] at this
    have mx : z_max 1 (K (7 + 3 * q)) = K (7 + 3 * q) := by
      unfold z_max
      rw [ep, if_pos (by rw [show (1 : Int32) = nI 1 from rfl, nI_ltI (by decide) (by omega)]; omega)]
    have m31 : hI h 3 (3 * q + 1) = K (7 + 3 * q) := by
      have := m3 h X.1.1 1 (by decide)
      rwa [show 6 + 3 * q + 1 = 7 + 3 * q by omega] at this
    unfold s_Soundings_freshen
    rw [if_neg hm, mp, Option.bind_some, nI_1, ib_nI (by omega) (by decide), show ix (nI (3 * q + 1)) = 3 * q + 1 from nI_clamp (by omega), m31, mx, lt_eq, t1, Option.bind_some]
    exact a1
/-- answers by what they are, not by a function -/
theorem askR {n : Nat} {h : Hp} (hi : Inv n h) {f g : Hp → Option (Int32 × Hp)} (A : (Nat → Int32) → Int32 → Prop) (U : ∀ K v w, A K v → A K w → v = w) (C : ∀ τ K, QX τ K h → ∃ v h1, f h = some (v, h1) ∧ A K v ∧ CQ (tin τ K) K h h1)
    (R : ∀ τ K k h1, RX τ K h1 → RC (tin τ K) K k h1 → ∃ v h2, g h1 = some (v, h2) ∧ A K v ∧ RE (tin τ K) K k h1 h2) : ∃ h2, ((f h).bind fun u => (g u.2).bind fun w => if u.1 = w.1 then some w.2 else none) = some h2 ∧ Inv (n + 1) h2 := by
  obtain ⟨τ, hi⟩ := hi
  obtain ⟨v, h1, e1, av, c⟩ := C (τ 0) (hI h 86) (QX_of hi)
  obtain ⟨w, h2, e2, aw, r1, r2, r3⟩ := R (τ 0) (hI h 86) (n + 1) h1 (RX_of hi (CQ_86 c (by decide) (by decide))) (RC_CQ c hi.2.2.2.2.2.2.1)
  refine ⟨h2, ?_, τ, query_ok2 hi c ⟨r1, r2, r3⟩⟩
  rw [e1, Option.bind_some]
  show ((g h1).bind fun w => if v = w.1 then some w.2 else none) = _
  rw [e2, Option.bind_some, U _ v w av aw]
  exact if_pos rfl
/-- the pairs' bounds -/
def prA (K : Nat → Int32) (q a b c d e : Nat) : Prop := isP K q a e ∧ (∀ x y, isP K q x y → a ≤ x ∧ x ≤ b ∧ c ≤ y ∧ y ≤ d) ∧ (∀ y, isP K q a y → e ≤ y) ∧ (∃ y, isP K q b y) ∧ (∃ x, isP K q x c) ∧ ∃ x, isP K q x d
theorem prA_u {K : Nat → Int32} {q a b c d e a2 b2 c2 d2 e2 : Nat} (H : prA K q a b c d e) (G : prA K q a2 b2 c2 d2 e2) : a = a2 ∧ b = b2 ∧ c = c2 ∧ d = d2 ∧ e = e2 := by
  obtain ⟨p1, p2, p3, ⟨y1, p4⟩, ⟨x1, p5⟩, x2, p6⟩ := H
  obtain ⟨q1, q2, q3, ⟨v1, q4⟩, ⟨u1, q5⟩, u2, q6⟩ := G
  have h1 := p2 _ _ q1
  have h2 := q2 _ _ p1
  have h3 := p2 _ _ q4
  have h4 := q2 _ _ p4
  have h5 := p2 _ _ q5
  have h6 := q2 _ _ p5
  have h7 := p2 _ _ q6
  have h8 := q2 _ _ p6
  have ea : a = a2 := by omega
  subst ea
  have h9 := p3 _ q1
  have h10 := q3 _ p1
  omega
def AG (x1 x2 : Int32) (K : Nat → Int32) (v : Int32) : Prop := if wi x1 0 3 = 0 ∨ wi x2 0 5 = 0 then v = -1 else if x2 = 0 then v = nI (flC (mk pD K) (ix x1) []) else if flC (mk pD K) (ix x1) [] = 0 then v = -1 else ∃ a b c d e, prA (mk pD K) (ix x1) a b c d e ∧ v = (if x2 = 1 then nI (10 * a) else if x2 = 2 then nI (10 * b) else if x2 = 3 then nI (10 * c) else if x2 = 4 then nI (10 * d) else nI (10 * e))
theorem AG_u (x1 x2 : Int32) (K : Nat → Int32) (v w : Int32) (H : AG x1 x2 K v) (G : AG x1 x2 K w) : v = w := by
  unfold AG at H G
  split at H
  · rename_i z
    rw [if_pos z] at G
    rw [H, G]
  · rename_i z
    rw [if_neg z] at G
    split at H
    · rename_i y
      rw [if_pos y] at G
      rw [H, G]
    · rename_i y
      rw [if_neg y] at G
      split at H
      · rename_i u
        rw [if_pos u] at G
        rw [H, G]
      · rename_i u
        rw [if_neg u] at G
        obtain ⟨a, b, c, d, e, p, ev⟩ := H
        obtain ⟨a2, b2, c2, d2, e2, p2, ew⟩ := G
        obtain ⟨r1, r2, r3, r4, r5⟩ := prA_u p p2
        rw [ev, ew, r1, r2, r3, r4, r5]
theorem C_agree {τ : Nat → TF} {K : Nat → Int32} {h : Hp} (x1 x2 : Int32) (X : QX τ K h) : ∃ v h1, s_Race_agree x1 x2 h = some (v, h1) ∧ AG x1 x2 K v ∧ CQ (tin τ K) K h h1 := by
  unfold s_Race_agree s_Race_agree_16 AG
  rw [p_isMoonC, Option.bind_some]
  by_cases h1 : wi x1 0 3 = 0
  · rw [if_pos h1]; exact ⟨_, h, rfl, by rw [if_pos (Or.inl h1)], QX_CQ X (eqO_refl _ _) X⟩
  rw [if_neg h1, p_within, Option.bind_some]
  by_cases h2 : wi x2 0 5 = 0
  · rw [if_pos h2]; exact ⟨_, h, rfl, by rw [if_pos (Or.inr h2)], QX_CQ X (eqO_refl _ _) X⟩
  rw [if_neg h2]
  obtain ⟨q, hq, rfl⟩ := wi_nat (b := 3) (by decide) (wi_n0 h1)
  obtain ⟨w, hw, rfl⟩ := wi_nat (b := 5) (by decide) (wi_n0 h2)
  obtain ⟨g, a1, a2, a3, s1, s2, s3, s4⟩ := p_sound (show q < 4 by omega) X
  have cq := QX_CQ X a2 a3
  have hno : ¬ (wi (nI q) 0 3 = 0 ∨ wi (nI w) 0 5 = 0) := by
    rintro (z | z)
    · exact h1 z
    · exact h2 z
  rw [a1, Option.bind_some, show ix (nI q) = q from nI_clamp (by omega)]
  rcases (show w = 0 ∨ w = 1 ∨ w = 2 ∨ w = 3 ∨ w = 4 ∨ w = 5 by omega) with rfl | rfl | rfl | rfl | rfl | rfl
  · exact ⟨_, g, rfl, by rw [if_neg hno, if_pos (show nI 0 = 0 from rfl)]; exact s1, cq⟩
  · refine ⟨_, g, rfl, ?_, cq⟩
    rw [if_neg hno, if_neg (show ¬ nI 1 = 0 by decide)]
    by_cases z : flC (mk pD K) q [] = 0
    · rw [if_pos z]; exact (s3 z).1
    · rw [if_neg z]
      obtain ⟨a, b, c, d, e, f7, f8, f9, f10, f11, r⟩ := s4 z
      exact ⟨a, b, c, d, e, r, f7⟩
  · refine ⟨_, g, rfl, ?_, cq⟩
    rw [if_neg hno, if_neg (show ¬ nI 2 = 0 by decide)]
    by_cases z : flC (mk pD K) q [] = 0
    · rw [if_pos z]; exact (s3 z).2.1
    · rw [if_neg z]
      obtain ⟨a, b, c, d, e, f7, f8, f9, f10, f11, r⟩ := s4 z
      exact ⟨a, b, c, d, e, r, f8⟩
  · refine ⟨_, g, rfl, ?_, cq⟩
    rw [if_neg hno, if_neg (show ¬ nI 3 = 0 by decide)]
    by_cases z : flC (mk pD K) q [] = 0
    · rw [if_pos z]; exact (s3 z).2.2.1
    · rw [if_neg z]
      obtain ⟨a, b, c, d, e, f7, f8, f9, f10, f11, r⟩ := s4 z
      exact ⟨a, b, c, d, e, r, f9⟩
  · refine ⟨_, g, rfl, ?_, cq⟩
    rw [if_neg hno, if_neg (show ¬ nI 4 = 0 by decide)]
    by_cases z : flC (mk pD K) q [] = 0
    · rw [if_pos z]; exact (s3 z).2.2.2.1
    · rw [if_neg z]
      obtain ⟨a, b, c, d, e, f7, f8, f9, f10, f11, r⟩ := s4 z
      exact ⟨a, b, c, d, e, r, f10⟩
  · refine ⟨_, g, rfl, ?_, cq⟩
    rw [if_neg hno, if_neg (show ¬ nI 5 = 0 by decide)]
    by_cases z : flC (mk pD K) q [] = 0
    · rw [if_pos z]; exact (s3 z).2.2.2.2
    · rw [if_neg z]
      obtain ⟨a, b, c, d, e, f7, f8, f9, f10, f11, r⟩ := s4 z
      exact ⟨a, b, c, d, e, r, f11⟩
def aTells (x1 : Int32) (_ : TF) (K : Nat → Int32) : Int32 := if wi x1 0 3 = 0 then -1 else if ix (K 188) = 0 then -1 else nI (mkN (fun f => flC (mk pD K) (ix x1) [f]) (ix (K 188) - 1))
theorem flC_b {K : Nat → Int32} {q : Nat} {l : List Nat} (h : npH K q ≤ 200) : flC K q l ≤ 10200 := by
  unfold flC
  have h1 : ∀ a, smN (fun b => if flL K q a b = l then 1 else 0) (npH K q) ≤ 200 := fun a => by
    refine Nat.le_trans (smN_b (fun b => ?_) (npH K q)) h
    split <;> omega
  have : ∀ n, smN (fun a => smN (fun b => if flL K q a b = l then 1 else 0) (npH K q)) n ≤ 200 * n := by
    intro n
    induction n with
    | zero => exact Nat.le_refl _
    | succ n ih =>
      unfold smN
      have := h1 n
      have e : (fun a => smN (fun b => if flL K q a b = l then 1 else 0) (npH K q)) n = smN (fun b => if flL K q n b = l then 1 else 0) (npH K q) := rfl
      omega
  have := this 51
  omega
theorem C_tells {τ : Nat → TF} {K : Nat → Int32} {h : Hp} (x1 : Int32) (X : QX τ K h) : ∃ h1, s_Race_tells x1 h = some (aTells x1 (tin τ K) K, h1) ∧ CQ (tin τ K) K h h1 := by
  have rg := X.1.2.1
  obtain ⟨k, hk, ek, ik⟩ := Rg_fl rg
  unfold s_Race_tells s_Race_tells_17 aTells
  rw [p_isMoonC, Option.bind_some, ik]
  by_cases h1 : wi x1 0 3 = 0
  · rw [if_pos h1, if_pos h1]; exact ⟨h, rfl, QX_CQ X (eqO_refl _ _) X⟩
  rw [if_neg h1, if_neg h1, show hI h 1 18 = nI k from (StP_at X.1.1 (by decide) (show pl 188 = (0, 18) by decide)).trans ek]
  by_cases h2 : k = 0
  · rw [if_pos (by rw [h2]; rfl), if_pos h2]; exact ⟨h, rfl, QX_CQ X (eqO_refl _ _) X⟩
  rw [if_neg (nI_ne0 (by omega) (by omega)), if_neg h2]
  obtain ⟨q, hq, rfl⟩ := wi_nat (b := 3) (by decide) (wi_n0 h1)
  obtain ⟨g, a1, a2, a3, s1, s2, s3, s4⟩ := p_sound (show q < 4 by omega) X
  obtain ⟨p, p1, p2, ep, en⟩ := npH_e rg (show q < 4 by omega)
  have fb : ∀ l, flC (mk pD K) q l ≤ 10200 := fun l => flC_b (by omega)
  have sf : ∀ f, f < k → hI g 77 f = nI (flC (mk pD K) q [f]) := fun f hf => s2 f (by rw [kd_eq' (j := 188) (Or.inr (Or.inr rfl)), ik]; exact hf)
  have g18 : hI g 1 18 = nI k := (StP_at a3.1.1 (by decide) (show pl 188 = (0, 18) by decide)).trans ek
  have key : ∀ (d i : Nat), i + 1 + d = k → lp (fun q : Int32 × Int32 => s_Soundings_tellingFloat_4 q.1 q.2 g) (nI (mkN (fun f => flC (mk pD K) q [f]) i), nI (i + 1)) = some (nI (mkN (fun f => flC (mk pD K) q [f]) (k - 1))) := by
    intro d
    induction d with
    | zero =>
      intro i hi
      refine lp_inr ?_
      show s_Soundings_tellingFloat_4 _ (nI (i + 1)) g = _
      unfold s_Soundings_tellingFloat_4
      rw [g18, if_pos (by rw [nI_leI (by omega) (by omega)]; omega), show k - 1 = i by omega]
    | succ d ih =>
      intro i hi
      have ml := mkN_le (fun f => flC (mk pD K) q [f]) i
      have f1 := fb [i + 1]
      have f2 := fb [mkN (fun f => flC (mk pD K) q [f]) i]
      rw [lp_inl (s' := (nI (mkN (fun f => flC (mk pD K) q [f]) (i + 1)), nI (i + 1 + 1))) ?_]
      · exact ih (i + 1) (by omega)
      · show s_Soundings_tellingFloat_4 (nI (mkN (fun f => flC (mk pD K) q [f]) i)) (nI (i + 1)) g = _
        unfold s_Soundings_tellingFloat_4 s_Soundings_tellingFloat_32
        rw [g18, if_neg (by rw [nI_leI (by omega) (by omega)]; omega), ib_nI (by omega) (by decide), ib_nI (by omega) (by decide), show ix (nI (i + 1)) = i + 1 from nI_clamp (by omega), show ix (nI (mkN (fun f => flC (mk pD K) q [f]) i)) = mkN (fun f => flC (mk pD K) q [f]) i from nI_clamp (by omega), sf _ (by omega), sf _ (by omega), nI_1]
        have eN : mkN (fun f => flC (mk pD K) q [f]) (i + 1) = if flC (mk pD K) q [mkN (fun f => flC (mk pD K) q [f]) i] < flC (mk pD K) q [i + 1] then i + 1 else mkN (fun f => flC (mk pD K) q [f]) i := rfl
        rw [eN]
        by_cases z : flC (mk pD K) q [mkN (fun f => flC (mk pD K) q [f]) i] < flC (mk pD K) q [i + 1]
        · rw [if_pos z, if_neg (by rw [nI_leI (by omega) (by omega)]; omega)]
        · rw [if_neg z, if_pos (by rw [nI_leI (by omega) (by omega)]; omega)]
  rw [a1, Option.bind_some]
  refine ⟨g, ?_, QX_CQ X a2 a3⟩
  unfold s_Soundings_tellingFloat
  have k0 : lp (fun q : Int32 × Int32 => s_Soundings_tellingFloat_4 q.1 q.2 g) ((0 : Int32), (1 : Int32)) = _ := key (k - 1) 0 (by omega)
  rw [k0, Option.bind_some, show ix (nI q) = q from nI_clamp (by omega)]
