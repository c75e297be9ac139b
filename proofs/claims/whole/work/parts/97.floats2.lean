/-! floats: weighing, the class's -/
theorem isP_b {K : Nat → Int32} {q a b : Nat} (h : isP K q a b) (hp : npH K q ≤ 200) : a < 51 ∧ b < 200 := ⟨h.1, Nat.lt_of_lt_of_le h.2.1 hp⟩
theorem nI_m1 {a : Nat} (ha : a < 2147483648) : ¬ nI a = -1 := fun z => by
  have : nI a < 0 := by rw [z]; decide
  exact nI_pos ha this
theorem fdS_keep {F : Nat → Int32} {K : Nat → Int32} {q x y : Nat} {D D2 : Nat → Nat → Bool} (hD : ∀ a b, D2 a b = true ↔ (D a b = true ∨ (a = x ∧ b = y))) (hp : isP K q x y) (hnp : npH K q ≤ 200) (hy : ∀ u v, D u v = true → v ≤ y) (H : fdS F K q D) : fdS (kpF F x y) K q D2 := by
  obtain ⟨xb, yb⟩ := isP_b hp hnp
  rcases H with ⟨h1, f7, f8, f9, f10, f11⟩ | ⟨a, b, c, d, e, pr, f7, f8, f9, f10, f11⟩
  · refine Or.inr ⟨x, x, y, y, y, keep_new hD hp h1, ?_, ?_, ?_, ?_, ?_⟩
    · show (if F 7 = -1 then nI (10 * x) else _) = _
      rw [if_pos f7]
    · show z_max (F 8) (nI (10 * x)) = _
      rw [f8]
      unfold z_max
      rw [if_pos]
      rw [Int32.lt_iff_toInt_lt, nI_toInt (by omega), show (-1 : Int32).toInt = -1 by decide]
      omega
    · show (if F 9 = -1 then nI (10 * y) else F 9) = _
      rw [if_pos f9]
    · rfl
    · show (if F 7 = -1 then nI (10 * y) else _) = _
      rw [if_pos f7]
  · obtain ⟨ab, eb⟩ := isP_b pr.1.1 hnp
    obtain ⟨y1, p4⟩ := pr.2.2.2.1
    obtain ⟨x1, p5⟩ := pr.2.2.2.2.1
    have bb := (isP_b p4.1 hnp).1
    have cb := (isP_b p5.1 hnp).2
    refine Or.inr ⟨_, _, _, _, _, keep_pr hD hp hy pr, ?_, ?_, ?_, ?_, ?_⟩
    · show (if F 7 = -1 then nI (10 * x) else if F 7 ≤ nI (10 * x) then F 7 else nI (10 * x)) = _
      rw [f7, if_neg (nI_m1 (by omega))]
      by_cases z : x < a
      · rw [if_neg (by rw [nI_leI (by omega) (by omega)]; omega), if_pos z]
      · rw [if_pos (by rw [nI_leI (by omega) (by omega)]; omega), if_neg z]
    · show z_max (F 8) (nI (10 * x)) = _
      rw [f8]
      unfold z_max
      by_cases z : b < x
      · rw [if_pos (by rw [nI_ltI (by omega) (by omega)]; omega), if_pos z]
      · rw [if_neg (by rw [nI_ltI (by omega) (by omega)]; omega), if_neg z]
    · show (if F 9 = -1 then nI (10 * y) else F 9) = _
      rw [f9, if_neg (nI_m1 (by omega))]
    · rfl
    · show (if F 7 = -1 then nI (10 * y) else if F 7 ≤ nI (10 * x) then F 11 else nI (10 * y)) = _
      rw [f7, f11, if_neg (nI_m1 (by omega))]
      by_cases z : x < a
      · rw [if_neg (by rw [nI_leI (by omega) (by omega)]; omega), if_pos z]
      · rw [if_pos (by rw [nI_leI (by omega) (by omega)]; omega), if_neg z]
theorem smN_pt {f g : Nat → Nat} {y d : Nat} (h : ∀ i, g i = f i + (if i = y then d else 0)) : ∀ n, smN g n = smN f n + (if y < n then d else 0)
  | 0 => by rw [if_neg (by omega)]; rfl
  | n + 1 => by
    unfold smN
    rw [smN_pt h n, h n]
    by_cases z : n = y
    · rw [if_pos z, if_neg (by omega), if_pos (by omega)]; omega
    · rw [if_neg z]
      by_cases w : y < n
      · rw [if_pos w, if_pos (by omega)]; omega
      · rw [if_neg w, if_neg (by omega)]; omega
theorem pcs_step {K : Nat → Int32} {q x y : Nat} {l : List Nat} {D D2 : Nat → Nat → Bool} (hD : ∀ a b, D2 a b = true ↔ (D a b = true ∨ (a = x ∧ b = y))) (hno : D x y = false) (hx : x < 51) (hy : y < npH K q) : pcs K q l D2 = pcs K q l D + (if flL K q x y = l then 1 else 0) := by
  unfold pcs
  have inner : ∀ b, smN (fun a => if D2 a b = true ∧ flL K q a b = l then 1 else 0) 51 = smN (fun a => if D a b = true ∧ flL K q a b = l then 1 else 0) 51 + (if b = y then (if flL K q x y = l then 1 else 0) else 0) := by
    intro b
    rw [smN_pt (f := fun a => if D a b = true ∧ flL K q a b = l then 1 else 0) (y := x) (d := if b = y then (if flL K q x y = l then 1 else 0) else 0) ?_ 51, if_pos hx]
    intro i
    by_cases z : i = x ∧ b = y
    · obtain ⟨rfl, rfl⟩ := z
      have d2 : D2 i b = true := (hD i b).mpr (Or.inr ⟨rfl, rfl⟩)
      rw [if_pos rfl, if_pos rfl, hno, d2]
      by_cases w : flL K q i b = l
      · rw [if_pos ⟨rfl, w⟩, if_pos w, if_neg (fun u => by cases u.1)]
      · rw [if_neg (fun u => w u.2), if_neg w, if_neg (fun u => by cases u.1)]
    · have ed : (D2 i b = true) ↔ (D i b = true) := by
        rw [hD]
        exact ⟨fun u => by
          rcases u with u | u
          · exact u
          · exact absurd u z, Or.inl⟩
      have z0 : (if i = x then (if b = y then (if flL K q x y = l then 1 else 0) else 0) else 0) = 0 := by
        by_cases w : i = x
        · rw [if_pos w, if_neg (fun u => z ⟨w, u⟩)]
        · rw [if_neg w]
      rw [z0, Nat.add_zero]
      by_cases w : D i b = true ∧ flL K q i b = l
      · rw [if_pos w, if_pos ⟨ed.mpr w.1, w.2⟩]
      · rw [if_neg w, if_neg (fun u => w ⟨ed.mp u.1, u.2⟩)]
  rw [smN_pt inner (npH K q), if_pos hy]
/-- what weighing counts on -/
def SX (K : Nat → Int32) (q y : Nat) (g : Hp) : Prop := StP K g 1 ∧ (∀ f, f < ix (K 188) → hI g 75 f = flR (mk pD K) q f) ∧ ∀ f, f < ix (K 188) → hI g 76 f = wv (z_rem (K (161 + 2 * f) + nI (10 * y)) (K (7 + 3 * q))) (K (7 + 3 * q))
theorem flO_e {K : Nat → Int32} {q x y f : Nat} (hq : q < 4) (hf : f < 12) : flO (mk pD K) q x y f = decide (K 38 < szI (nI (10 * x) * wv (z_rem (K (161 + 2 * f) + nI (10 * y)) (K (7 + 3 * q))) (K (7 + 3 * q)) / 1000 - flR (mk pD K) q f)) := by
  unfold flO
  rw [szI_sub, kd_eq' (j := 38) (Or.inl (by decide)), kd_eq' (j := 7 + 3 * q) (Or.inl (by omega)), kd_eq' (j := 161 + 2 * f) (Or.inr (Or.inl (by omega)))]
  rfl
def lsF (K : Nat → Int32) (q x y i : Nat) : List Nat := (List.range i).filter (flO (mk pD K) q x y)
theorem lsF_succ (K : Nat → Int32) (q x y i : Nat) : lsF K q x y (i + 1) = if flO (mk pD K) q x y i then lsF K q x y i ++ [i] else lsF K q x y i := by
  unfold lsF
  rw [List.range_succ, List.filter_append]
  by_cases h : flO (mk pD K) q x y i = true
  · rw [if_pos h]
    congr 1
    rw [List.filter_cons, if_pos h]
    rfl
  · rw [if_neg h, List.filter_cons, if_neg h]
    simp
theorem lsF_mono (K : Nat → Int32) (q x y : Nat) : ∀ d i, (lsF K q x y i).length ≤ (lsF K q x y (i + d)).length
  | 0, _ => Nat.le_refl _
  | d + 1, i => by
    refine Nat.le_trans (lsF_mono K q x y d i) ?_
    rw [← Nat.add_assoc, lsF_succ]
    split
    · rw [List.length_append]; omega
    · exact Nat.le_refl _
def lsV (l : List Nat) : Int32 := match l with
  | [] => -1
  | f :: _ => nI f
theorem Rg_fl {K : Nat → Int32} (rg : Rg K) : ∃ k, k ≤ 12 ∧ K 188 = nI k ∧ ix (K 188) = k := by
  obtain ⟨k, hk, e⟩ := Rg_nat rg (j := 188) (b := 12) (by decide) (by decide) (by decide)
  exact ⟨k, hk, e, by rw [e]; exact nI_clamp (by omega)⟩
theorem lsF_b (K : Nat → Int32) (q x y i f : Nat) (h : f ∈ lsF K q x y i) : f < i := by
  unfold lsF at h
  exact List.mem_range.mp (List.mem_filter.mp h).1
theorem p_weigh {K : Nat → Int32} {q x y : Nat} {g : Hp} (rg : Rg K) (hq : q < 4) (X : SX K q y g) : ∃ g2, s_Soundings_weigh (nI (10 * x)) (nI (10 * y)) g = some g2 ∧ eqO (fun j => decide (j = 74) || decide (j = 77)) g g2 ∧ (flL (mk pD K) q x y = [] → (∀ k, hI g2 74 k = kpF (hI g 74) x y k) ∧ hI g2 77 = hI g 77) ∧ (∀ f, flL (mk pD K) q x y = [f] → hI g2 74 = hI g 74 ∧ ∀ i, hI g2 77 i = if i = f then hI g 77 f + 1 else hI g 77 i) ∧ ((flL (mk pD K) q x y ≠ [] ∧ ∀ f, flL (mk pD K) q x y ≠ [f]) → g2 = g) := by
  obtain ⟨k, hk, ek, ik⟩ := Rg_fl rg
  have efl : flL (mk pD K) q x y = lsF K q x y k := by
    unfold flL lsF
    rw [kd_eq' (j := 188) (Or.inr (Or.inr rfl)), ik]
  have e18 : hI g 1 18 = nI k := (StP_at X.1 (by decide) (show pl 188 = (0, 18) by decide)).trans ek
  have e8 : hI g 4 8 = K 38 := StP_at X.1 (j := 38) (by decide) (pl_term 8 (by decide))
  -- the end
  have fin : ∀ (l : List Nat) (v : Int32), (l = [] → v = 0) → (∀ f, l = [f] → v = 1 ∧ f < 12) → (2 ≤ l.length → v = 2) → l = lsF K q x y k ∨ (2 ≤ l.length ∧ 2 ≤ (lsF K q x y k).length) → ∃ g2, s_Soundings_weigh_75 (nI (10 * x)) (nI (10 * y)) v (lsV l) g = some g2 ∧ eqO (fun j => decide (j = 74) || decide (j = 77)) g g2 ∧ (flL (mk pD K) q x y = [] → (∀ k, hI g2 74 k = kpF (hI g 74) x y k) ∧ hI g2 77 = hI g 77) ∧ (∀ f, flL (mk pD K) q x y = [f] → hI g2 74 = hI g 74 ∧ ∀ i, hI g2 77 i = if i = f then hI g 77 f + 1 else hI g 77 i) ∧ ((flL (mk pD K) q x y ≠ [] ∧ ∀ f, flL (mk pD K) q x y ≠ [f]) → g2 = g) := by
    intro l v h0 h1 h2 hl
    unfold s_Soundings_weigh_75 s_Soundings_weigh_104
    rw [efl]
    match l, h0, h1, h2, hl with
    | [], h0, _, _, hl =>
      have hl : lsF K q x y k = [] := by
        rcases hl with hl | ⟨hl, -⟩
        · exact hl.symm
        · exact absurd hl (by decide)
      obtain ⟨g2, a1, a2, a3⟩ := p_keep (h := g) (x := x) (y := y)
      rw [h0 rfl, if_pos rfl, a1, Option.bind_some]
      refine ⟨g2, rfl, eqO_mono a2 (fun j hj => ?_), fun _ => ⟨a3, (a2.2 77 (by decide)).1⟩, fun f z => ?_, fun z => absurd hl z.1⟩
      · simp only [Bool.or_eq_false_iff] at hj
        exact hj.1
      · rw [hl] at z; cases z
    | [f], _, h1, _, hl =>
      have hl : lsF K q x y k = [f] := by
        rcases hl with hl | ⟨hl, -⟩
        · exact hl.symm
        · exact absurd hl (show ¬ 2 ≤ 1 by decide)
      obtain ⟨v1, f12⟩ := h1 f rfl
      rw [v1, if_neg (by decide), if_pos rfl]
      show ∃ g2, (ib (nI f) 12 (ib (nI f) 12 (some (sI g 77 (ix (nI f)) (hI g 77 (ix (nI f)) + 1))))) = some g2 ∧ _
      rw [ib_nI f12 (by decide), ib_nI f12 (by decide), show ix (nI f) = f from nI_clamp (by omega)]
      refine ⟨_, rfl, eqO_sI (eqO_refl _ _) (by decide), fun z => ?_, fun f2 z => ?_, fun z => absurd hl (z.2 f)⟩
      · rw [hl] at z; cases z
      · rw [hl] at z
        cases z
        refine ⟨hI_sI_ne (by decide), fun i => ?_⟩
        rw [hI_sI']
        by_cases w : i = f
        · rw [if_pos ⟨rfl, w⟩, if_pos w]
        · rw [if_neg (fun u => w u.2), if_neg w]
    | a :: b :: r, _, _, h2, hl =>
      have hl2 : 2 ≤ (lsF K q x y k).length := by
        rcases hl with hl | ⟨-, hl⟩
        · rw [← hl]; simp
        · exact hl
      rw [h2 (by simp), if_neg (by decide), if_neg (by decide)]
      refine ⟨g, rfl, eqO_refl _ _, fun z => ?_, fun f z => ?_, fun _ => rfl⟩
      · rw [z] at hl2; exact absurd hl2 (show ¬ 2 ≤ 0 by decide)
      · rw [z] at hl2; exact absurd hl2 (show ¬ 2 ≤ 1 by decide)
  have w2 : ∀ v4 : Int32, s_Soundings_weigh_75 (nI (10 * x)) (nI (10 * y)) 2 v4 g = some g := fun v4 => by
    unfold s_Soundings_weigh_75 s_Soundings_weigh_104
    rw [if_neg (by decide), if_neg (by decide)]
  have any : ∀ (i : Nat) (v4 : Int32), i ≤ k → (i = k ∨ (lsF K q x y i).length = 2) → (lsF K q x y i).length ≤ 2 → ((lsF K q x y i).length ≤ 1 → v4 = lsV (lsF K q x y i)) → ∃ g2, s_Soundings_weigh_75 (nI (10 * x)) (nI (10 * y)) (nI (lsF K q x y i).length) v4 g = some g2 ∧ eqO (fun j => decide (j = 74) || decide (j = 77)) g g2 ∧ (flL (mk pD K) q x y = [] → (∀ k, hI g2 74 k = kpF (hI g 74) x y k) ∧ hI g2 77 = hI g 77) ∧ (∀ f, flL (mk pD K) q x y = [f] → hI g2 74 = hI g 74 ∧ ∀ i, hI g2 77 i = if i = f then hI g 77 f + 1 else hI g 77 i) ∧ ((flL (mk pD K) q x y ≠ [] ∧ ∀ f, flL (mk pD K) q x y ≠ [f]) → g2 = g) := by
    intro i v4 hik hor hle hv
    have mono : 2 ≤ (lsF K q x y i).length → 2 ≤ (lsF K q x y k).length := fun z => by
      have := lsF_mono K q x y (k - i) i
      rw [show i + (k - i) = k by omega] at this
      omega
    obtain ⟨g2, a1, a2⟩ := fin (lsF K q x y i) (nI (lsF K q x y i).length) (fun z => by rw [z]; rfl) (fun f z => by
      refine ⟨by rw [z]; rfl, ?_⟩
      have := lsF_b K q x y i f (by rw [z]; exact List.mem_singleton.mpr rfl)
      omega) (fun z => by rw [show (lsF K q x y i).length = 2 by omega]; rfl) (by
      rcases hor with z | z
      · exact Or.inl (by rw [z])
      · exact Or.inr ⟨by omega, mono (by omega)⟩)
    refine ⟨g2, ?_, a2⟩
    by_cases z : (lsF K q x y i).length ≤ 1
    · rw [hv z]; exact a1
    · have e2 : (lsF K q x y i).length = 2 := by omega
      rw [e2] at a1 ⊢
      have a1 : s_Soundings_weigh_75 (nI (10 * x)) (nI (10 * y)) 2 (lsV (lsF K q x y i)) g = some g2 := a1
      rw [w2] at a1
      exact (w2 v4).trans a1
  have key : ∀ (d i : Nat) (v4 : Int32), i + d = k → (lsF K q x y i).length ≤ 2 → ((lsF K q x y i).length ≤ 1 → v4 = lsV (lsF K q x y i)) → ∃ g2, lp (fun q : Int32 × Int32 × Int32 × Int32 × Int32 × Hp => s_Soundings_weigh_8 q.1 q.2.1 q.2.2.1 q.2.2.2.1 q.2.2.2.2.1 q.2.2.2.2.2) (nI (10 * x), nI (10 * y), nI (lsF K q x y i).length, v4, nI i, g) = some g2 ∧ eqO (fun j => decide (j = 74) || decide (j = 77)) g g2 ∧ (flL (mk pD K) q x y = [] → (∀ k, hI g2 74 k = kpF (hI g 74) x y k) ∧ hI g2 77 = hI g 77) ∧ (∀ f, flL (mk pD K) q x y = [f] → hI g2 74 = hI g 74 ∧ ∀ i, hI g2 77 i = if i = f then hI g 77 f + 1 else hI g 77 i) ∧ ((flL (mk pD K) q x y ≠ [] ∧ ∀ f, flL (mk pD K) q x y ≠ [f]) → g2 = g) := by
    intro d
    induction d with
    | zero =>
      intro i v4 hi hle hv
      have hi : i = k := by omega
      obtain ⟨g2, a1, a2⟩ := any i v4 (by omega) (Or.inl hi) hle hv
      refine ⟨g2, lp_inr ?_, a2⟩
      show s_Soundings_weigh_8 (nI (10 * x)) (nI (10 * y)) (nI (lsF K q x y i).length) v4 (nI i) g = _
      unfold s_Soundings_weigh_8
      rw [e18, hi, if_pos (Int32.le_refl _), ← hi, a1]
      rfl
    | succ d ih =>
      intro i v4 hi hle hv
      by_cases z : (lsF K q x y i).length = 2
      · obtain ⟨g2, a1, a2⟩ := any i v4 (by omega) (Or.inr z) hle hv
        refine ⟨g2, lp_inr ?_, a2⟩
        show s_Soundings_weigh_8 (nI (10 * x)) (nI (10 * y)) (nI (lsF K q x y i).length) v4 (nI i) g = _
        unfold s_Soundings_weigh_8
        rw [e18, if_neg (by rw [nI_leI (by omega) (by omega)]; omega), if_pos (by rw [z]; decide), a1]
        rfl
      · have ls := lsF_succ K q x y i
        have stp : s_Soundings_weigh_8 (nI (10 * x)) (nI (10 * y)) (nI (lsF K q x y i).length) v4 (nI i) g = if flO (mk pD K) q x y i then some (.inl (nI (10 * x), nI (10 * y), nI ((lsF K q x y i).length + 1), nI i, nI (i + 1), g)) else some (.inl (nI (10 * x), nI (10 * y), nI (lsF K q x y i).length, v4, nI (i + 1), g)) := by
          unfold s_Soundings_weigh_8 s_Soundings_weigh_69
          rw [e18, if_neg (by rw [nI_leI (by omega) (by omega)]; omega), if_neg (by rw [show (2 : Int32) = nI 2 from rfl, nI_leI (by decide) (by omega)]; omega), ib_nI (by omega) (by decide), ib_nI (by omega) (by decide), ib_some _ (by decide) (by decide), show ix 8 = 8 by decide, e8, show ix (nI i) = i from nI_clamp (by omega), X.2.1 i (by omega), X.2.2 i (by omega), z_abs_eq, nI_1, nI_1, flO_e hq (by omega)]
          by_cases w : K 38 < szI (nI (10 * x) * wv (z_rem (K (161 + 2 * i) + nI (10 * y)) (K (7 + 3 * q))) (K (7 + 3 * q)) / 1000 - flR (mk pD K) q i)
          · rw [if_neg (Int32.not_le.mpr w), decide_eq_true w]; rfl
          · rw [if_pos (Int32.not_lt.mp w), decide_eq_false w]; rfl
        cases hf : flO (mk pD K) q x y i with
        | true =>
          rw [hf, if_pos rfl] at stp ls
          have le : (lsF K q x y (i + 1)).length = (lsF K q x y i).length + 1 := by rw [ls, List.length_append]; rfl
          rw [lp_inl stp, ← le]
          refine ih (i + 1) (nI i) (by omega) (by omega) (fun h1 => ?_)
          have e0 : lsF K q x y i = [] := List.length_eq_zero_iff.mp (by omega)
          rw [ls, e0]
          rfl
        | false =>
          rw [hf, if_neg (by decide)] at stp ls
          rw [lp_inl stp]
          have := ih (i + 1) v4 (by omega) (by rw [ls]; omega) (fun h1 => by rw [ls] at h1 ⊢; exact hv h1)
          rw [ls] at this
          exact this
  obtain ⟨g2, a1, a2⟩ := key k 0 (-1) (by omega) (Nat.zero_le 2) (fun _ => rfl)
  exact ⟨g2, a1, a2⟩
