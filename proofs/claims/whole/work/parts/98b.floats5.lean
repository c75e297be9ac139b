/-! floats: the reference's -/
def QB (K : Nat → Int32) (q : Nat) (bt : Option Nat) (x y : Nat) (n : Nat) : Bool := (List.range n).all fun f => decide (bt = some f) || !flO (mk pD K) q x y f
theorem QB_s (K : Nat → Int32) (q : Nat) (bt : Option Nat) (x y n : Nat) : QB K q bt x y (n + 1) = (QB K q bt x y n && (decide (bt = some n) || !flO (mk pD K) q x y n)) := by
  unfold QB
  rw [List.range_succ, List.all_append]
  simp
theorem filter_nil {p : Nat → Bool} {n : Nat} : (List.range n).filter p = [] ↔ ∀ f, f < n → p f = false := by
  rw [List.filter_eq_nil_iff]
  constructor
  · intro z f hf
    have := z f (List.mem_range.mpr hf)
    cases h : p f
    · rfl
    · exact absurd h this
  · intro z f hf h
    rw [z f (List.mem_range.mp hf)] at h
    cases h
theorem filter_one {p : Nat → Bool} {f0 : Nat} : ∀ n, f0 < n → ((List.range n).filter p = [f0] ↔ p f0 = true ∧ ∀ f, f < n → f ≠ f0 → p f = false)
  | 0, h => absurd h (by omega)
  | n + 1, h => by
    rw [List.range_succ, List.filter_append]
    by_cases e : f0 = n
    · subst e
      by_cases hp : p f0 = true
      · have e1 : List.filter p [f0] = [f0] := by rw [List.filter_cons, if_pos hp]; rfl
        rw [e1]
        constructor
        · intro z
          have hl : (List.range f0).filter p = [] := by
            have := congrArg List.length z
            rw [List.length_append] at this
            exact List.length_eq_zero_iff.mp (by simp at this ⊢; omega)
          exact ⟨hp, fun f hf hne => filter_nil.mp hl f (by omega)⟩
        · intro z
          rw [filter_nil.mpr (fun f hf => z.2 f (by omega) (by omega))]
          rfl
      · have e1 : List.filter p [f0] = [] := by rw [List.filter_cons, if_neg hp]; rfl
        rw [e1, List.append_nil]
        constructor
        · intro z
          have : f0 ∈ (List.range f0).filter p := by rw [z]; exact List.mem_singleton.mpr rfl
          have := List.mem_range.mp (List.mem_filter.mp this).1
          omega
        · intro z
          exact absurd z.1 hp
    · by_cases hp : p n = true
      · have e1 : List.filter p [n] = [n] := by rw [List.filter_cons, if_pos hp]; rfl
        rw [e1]
        constructor
        · intro z
          have : n ∈ (List.range n).filter p ++ [n] := List.mem_append_right _ (List.mem_singleton.mpr rfl)
          rw [z] at this
          exact absurd (List.mem_singleton.mp this).symm e
        · intro z
          have := z.2 n (by omega) (Ne.symm e)
          rw [hp] at this
          cases this
      · have hp : p n = false := by
          cases h : p n
          · rfl
          · exact absurd h hp
        have e1 : List.filter p [n] = [] := by rw [List.filter_cons, if_neg (by rw [hp]; decide)]; rfl
        rw [e1, List.append_nil, filter_one n (by omega)]
        constructor
        · intro z
          refine ⟨z.1, fun f hf hne => ?_⟩
          by_cases hn : f = n
          · rw [hn]; exact hp
          · exact z.2 f (by omega) hne
        · intro z
          exact ⟨z.1, fun f hf hne => z.2 f (by omega) hne⟩
theorem QB_none {K : Nat → Int32} {q x y : Nat} : QB K q none x y (ix (mk pD K 188)) = true ↔ flL (mk pD K) q x y = [] := by
  unfold QB flL
  rw [filter_nil, List.all_eq_true]
  constructor
  · intro z f hf
    have := z f (List.mem_range.mpr hf)
    simp at this
    exact this
  · intro z f hf
    rw [z f (List.mem_range.mp hf)]
    simp
theorem QB_one {K : Nat → Int32} {q x y f0 : Nat} (h0 : f0 < ix (mk pD K 188)) : QB K q (some f0) x y (ix (mk pD K 188)) = true ↔ (flL (mk pD K) q x y = [] ∨ flL (mk pD K) q x y = [f0]) := by
  unfold QB flL
  rw [filter_nil, filter_one _ h0, List.all_eq_true]
  constructor
  · intro z
    have zz : ∀ f, f < ix (mk pD K 188) → f ≠ f0 → flO (mk pD K) q x y f = false := fun f hf hne => by
      have := z f (List.mem_range.mpr hf)
      simp at this
      rcases this with w | w
      · exact absurd w.symm hne
      · exact w
    cases hf : flO (mk pD K) q x y f0
    · refine Or.inl (fun f hf2 => ?_)
      by_cases e : f = f0
      · rw [e]; exact hf
      · exact zz f hf2 e
    · exact Or.inr ⟨rfl, zz⟩
  · intro z f hf
    by_cases e : f0 = f
    · simp [e]
    · rcases z with z | z
      · rw [z f (List.mem_range.mp hf)]; simp
      · rw [z.2 f (List.mem_range.mp hf) (Ne.symm e)]; simp
def ctQ (K : Nat → Int32) (q : Nat) (bt : Option Nat) (D : Nat → Nat → Bool) : Nat := smN (fun b => smN (fun a => if D a b = true ∧ QB K q bt a b (ix (mk pD K 188)) = true then 1 else 0) 51) (npH (mk pD K) q)
theorem ctQ_step {K : Nat → Int32} {q x y : Nat} {bt : Option Nat} {D D2 : Nat → Nat → Bool} (hD : ∀ a b, D2 a b = true ↔ (D a b = true ∨ (a = x ∧ b = y))) (hno : D x y = false) (hx : x < 51) (hy : y < npH (mk pD K) q) : ctQ K q bt D2 = ctQ K q bt D + (if QB K q bt x y (ix (mk pD K 188)) = true then 1 else 0) := by
  unfold ctQ
  have inner : ∀ b, smN (fun a => if D2 a b = true ∧ QB K q bt a b (ix (mk pD K 188)) = true then 1 else 0) 51 = smN (fun a => if D a b = true ∧ QB K q bt a b (ix (mk pD K 188)) = true then 1 else 0) 51 + (if b = y then (if QB K q bt x y (ix (mk pD K 188)) = true then 1 else 0) else 0) := by
    intro b
    rw [smN_pt (f := fun a => if D a b = true ∧ QB K q bt a b (ix (mk pD K 188)) = true then 1 else 0) (y := x) (d := if b = y then (if QB K q bt x y (ix (mk pD K 188)) = true then 1 else 0) else 0) ?_ 51, if_pos hx]
    intro i
    by_cases z : i = x ∧ b = y
    · obtain ⟨rfl, rfl⟩ := z
      have d2 : D2 i b = true := (hD i b).mpr (Or.inr ⟨rfl, rfl⟩)
      rw [if_pos rfl, if_pos rfl, hno, d2]
      by_cases w : QB K q bt i b (ix (mk pD K 188)) = true
      · rw [if_pos ⟨rfl, w⟩, if_pos w, if_neg (fun u => by cases u.1)]
      · rw [if_neg (fun u => w u.2), if_neg w, if_neg (fun u => by cases u.1)]
    · have ed : (D2 i b = true) ↔ (D i b = true) := by
        rw [hD]
        exact ⟨fun u => by
          rcases u with u | u
          · exact u
          · exact absurd u z, Or.inl⟩
      have z0 : (if i = x then (if b = y then (if QB K q bt x y (ix (mk pD K 188)) = true then 1 else 0) else 0) else 0) = 0 := by
        by_cases w : i = x
        · rw [if_pos w, if_neg (fun u => z ⟨w, u⟩)]
        · rw [if_neg w]
      rw [z0, Nat.add_zero]
      by_cases w : D i b = true ∧ QB K q bt i b (ix (mk pD K 188)) = true
      · rw [if_pos w, if_pos ⟨ed.mpr w.1, w.2⟩]
      · rw [if_neg w, if_neg (fun u => w ⟨ed.mp u.1, u.2⟩)]
  rw [smN_pt inner (npH (mk pD K) q), if_pos hy]
theorem ctQ_none {K : Nat → Int32} {q : Nat} {D : Nat → Nat → Bool} : ctQ K q none D = pcs (mk pD K) q [] D := by
  unfold ctQ pcs
  refine smN_cg _ (fun b _ => smN_cg _ (fun a _ => ?_))
  by_cases z : D a b = true ∧ flL (mk pD K) q a b = []
  · rw [if_pos ⟨z.1, QB_none.mpr z.2⟩, if_pos z]
  · rw [if_neg (fun u => z ⟨u.1, QB_none.mp u.2⟩), if_neg z]
theorem ctQ_some {K : Nat → Int32} {q f0 : Nat} {D : Nat → Nat → Bool} (h0 : f0 < ix (mk pD K 188)) : ctQ K q (some f0) D = pcs (mk pD K) q [] D + pcs (mk pD K) q [f0] D := by
  unfold ctQ pcs
  have ad : ∀ (g e : Nat → Nat) k, smN (fun b => g b + e b) k = smN g k + smN e k := by
    intro g e k
    induction k with
    | zero => rfl
    | succ k ih => unfold smN; rw [ih]; omega
  rw [← ad]
  refine smN_cg _ (fun b _ => ?_)
  rw [← ad]
  refine smN_cg _ (fun a _ => ?_)
  by_cases d : D a b = true
  · by_cases z : flL (mk pD K) q a b = []
    · rw [if_pos ⟨d, (QB_one h0).mpr (Or.inl z)⟩, if_pos ⟨d, z⟩, if_neg (fun u => by rw [z] at u; cases u.2)]
    · by_cases w : flL (mk pD K) q a b = [f0]
      · rw [if_pos ⟨d, (QB_one h0).mpr (Or.inr w)⟩, if_neg (fun u => z u.2), if_pos ⟨d, w⟩]
      · rw [if_neg (fun u => by rcases (QB_one h0).mp u.2 with t | t; exact z t; exact w t), if_neg (fun u => z u.2), if_neg (fun u => w u.2)]
  · rw [if_neg (fun u => d u.1), if_neg (fun u => d u.1), if_neg (fun u => d u.1)]
theorem pcs_0 {K : Nat → Int32} {q : Nat} {D : Nat → Nat → Bool} : pcs K q [] D = 0 ↔ ∀ a b, ¬ ipD K q D a b := by
  constructor
  · intro z a b p
    unfold pcs at z
    have h1 := smN_at (v := fun b => smN (fun a => if D a b = true ∧ flL K q a b = [] then 1 else 0) 51) (npH K q) b p.1.2.1
    have h2 := smN_at (v := fun a => if D a b = true ∧ flL K q a b = [] then 1 else 0) 51 a p.1.1
    rw [if_pos ⟨p.2, p.1.2.2⟩] at h2
    have h1 : smN (fun a => if D a b = true ∧ flL K q a b = [] then 1 else 0) 51 ≤ smN (fun b => smN (fun a => if D a b = true ∧ flL K q a b = [] then 1 else 0) 51) (npH K q) := h1
    omega
  · intro z
    unfold pcs
    exact smN_0 _ (fun b hb => smN_0 _ (fun a ha => if_neg (fun w => z a b ⟨⟨ha, hb, w.2⟩, w.1⟩)))
/-- a pair that agrees comes: heights never fall -/
theorem keepH_pr {K : Nat → Int32} {q x y a b c d e : Nat} {D D2 : Nat → Nat → Bool} (hD : ∀ a b, D2 a b = true ↔ (D a b = true ∨ (a = x ∧ b = y))) (hp : isP K q x y) (hx : ∀ u v, D u v = true → u ≤ x) (hy : ∀ v, D x v = true → v ≤ y) (H : prD K q D a b c d e) : prD K q D2 a x (if c ≤ y then c else y) (if y ≤ d then d else y) e := by
  obtain ⟨p1, p2, p3, ⟨y1, p4⟩, ⟨x1, p5⟩, x2, p6⟩ := H
  have up : ∀ u v, ipD K q D u v → ipD K q D2 u v := fun u v z => ⟨z.1, (hD u v).mpr (Or.inl z.2)⟩
  have nw : ipD K q D2 x y := ⟨hp, (hD x y).mpr (Or.inr ⟨rfl, rfl⟩)⟩
  have cs : ∀ u v, ipD K q D2 u v → ipD K q D u v ∨ (u = x ∧ v = y) := fun u v z => by
    rcases (hD u v).mp z.2 with w | w
    · exact Or.inl ⟨z.1, w⟩
    · exact Or.inr w
  have ax : a ≤ x := hx a e p1.2
  refine ⟨up _ _ p1, fun u v z => ?_, fun v z => ?_, ⟨y, nw⟩, ?_, ?_⟩
  · rcases cs u v z with w | ⟨rfl, rfl⟩
    · have h1 := p2 u v w
      have h2 := hx u v w.2
      refine ⟨h1.1, h2, ?_, ?_⟩
      · split <;> omega
      · split <;> omega
    · refine ⟨ax, Nat.le_refl _, ?_, ?_⟩
      · split <;> omega
      · split <;> omega
  · rcases cs a v z with w | ⟨ha, rfl⟩
    · exact p3 v w
    · have := p1.2
      rw [ha] at this
      exact hy e this
  · by_cases w : c ≤ y
    · rw [if_pos w]; exact ⟨x1, up _ _ p5⟩
    · rw [if_neg w]; exact ⟨x, nw⟩
  · by_cases w : y ≤ d
    · rw [if_pos w]; exact ⟨x2, up _ _ p6⟩
    · rw [if_neg w]; exact ⟨x, nw⟩
def kpR (F : Nat → Int32) (x y : Nat) : Nat → Int32 := fun k => if k = 39 then F 39 + 1 else if k = 40 then (if F 39 = 0 then nI (10 * x) else F 40) else if k = 41 then nI (10 * x) else if k = 42 then (if (if F 39 = 0 then nI (10 * y) else F 42) ≤ nI (10 * y) then (if F 39 = 0 then nI (10 * y) else F 42) else nI (10 * y)) else if k = 43 then (if nI (10 * y) ≤ (if F 39 = 0 then nI (10 * y) else F 43) then (if F 39 = 0 then nI (10 * y) else F 43) else nI (10 * y)) else if k = 44 then (if F 39 = 0 then nI (10 * y) else F 44) else F k
theorem p_205 {v2 v3 : Int32} {g : Hp} {x y : Nat} : ∃ g2, s_Mod_agrees_205 v2 v3 (nI (10 * x)) (nI (10 * y)) 1 g = some (.inl (v2, v3, nI (10 * x), nI (10 * y) + 10, g2)) ∧ eqO sAs g g2 ∧ ∀ k, hI g2 84 k = kpR (hI g 84) x y k := by
  have e244 : ∀ (g : Hp), ∃ g2, s_Mod_agrees_244 v2 v3 (nI (10 * x)) (nI (10 * y)) g = some (.inl (v2, v3, nI (10 * x), nI (10 * y) + 10, g2)) ∧ eqO sAs g g2 ∧ ∀ k, hI g2 84 k = if k = 39 then hI g 84 39 + 1 else if k = 41 then nI (10 * x) else if k = 42 then (if hI g 84 42 ≤ nI (10 * y) then hI g 84 42 else nI (10 * y)) else if k = 43 then (if nI (10 * y) ≤ hI g 84 43 then hI g 84 43 else nI (10 * y)) else hI g 84 k := by
    intro g
    unfold s_Mod_agrees_244 s_Mod_agrees_279 s_Mod_agrees_301 s_Mod_agrees_304
    simp only [lt_eq]
    have c42 : hI (sI (sI g 84 39 (hI g 84 39 + 1)) 84 41 (nI (10 * x))) 84 42 = hI g 84 42 := by simp [hI_sI']
    rw [c42]
    have c43 : ∀ v, hI (sI (sI (sI g 84 39 (hI g 84 39 + 1)) 84 41 (nI (10 * x))) 84 42 v) 84 43 = hI g 84 43 := fun v => by simp [hI_sI']
    by_cases z : hI g 84 42 ≤ nI (10 * y)
    · rw [if_pos z, c43]
      by_cases w : nI (10 * y) ≤ hI g 84 43
      · rw [if_pos w]
        refine ⟨_, rfl, eqO_sI (eqO_sI (eqO_sI (eqO_sI (eqO_refl _ _) (by decide)) (by decide)) (by decide)) (by decide), fun k => ?_⟩
        rw [if_pos z, if_pos w]
        simp only [hI_sI']
        by_cases k39 : k = 39
        · subst k39; simp
        by_cases k41 : k = 41
        · subst k41; simp
        by_cases k42 : k = 42
        · subst k42; simp
        by_cases k43 : k = 43
        · subst k43; simp
        simp [k39, k41, k42, k43]
      · rw [if_neg w]
        refine ⟨_, rfl, eqO_sI (eqO_sI (eqO_sI (eqO_sI (eqO_refl _ _) (by decide)) (by decide)) (by decide)) (by decide), fun k => ?_⟩
        rw [if_pos z, if_neg w]
        simp only [hI_sI']
        by_cases k39 : k = 39
        · subst k39; simp
        by_cases k41 : k = 41
        · subst k41; simp
        by_cases k42 : k = 42
        · subst k42; simp
        by_cases k43 : k = 43
        · subst k43; simp
        simp [k39, k41, k42, k43]
    · rw [if_neg z, c43]
      by_cases w : nI (10 * y) ≤ hI g 84 43
      · rw [if_pos w]
        refine ⟨_, rfl, eqO_sI (eqO_sI (eqO_sI (eqO_sI (eqO_refl _ _) (by decide)) (by decide)) (by decide)) (by decide), fun k => ?_⟩
        rw [if_neg z, if_pos w]
        simp only [hI_sI']
        by_cases k39 : k = 39
        · subst k39; simp
        by_cases k41 : k = 41
        · subst k41; simp
        by_cases k42 : k = 42
        · subst k42; simp
        by_cases k43 : k = 43
        · subst k43; simp
        simp [k39, k41, k42, k43]
      · rw [if_neg w]
        refine ⟨_, rfl, eqO_sI (eqO_sI (eqO_sI (eqO_sI (eqO_refl _ _) (by decide)) (by decide)) (by decide)) (by decide), fun k => ?_⟩
        rw [if_neg z, if_neg w]
        simp only [hI_sI']
        by_cases k39 : k = 39
        · subst k39; simp
        by_cases k41 : k = 41
        · subst k41; simp
        by_cases k42 : k = 42
        · subst k42; simp
        by_cases k43 : k = 43
        · subst k43; simp
        simp [k39, k41, k42, k43]
  unfold s_Mod_agrees_205
  rw [if_neg (by decide)]
  by_cases z : hI g 84 39 = 0
  · rw [if_pos z]
    obtain ⟨g2, a1, a2, a3⟩ := e244 (sI (sI (sI (sI g 84 40 (nI (10 * x))) 84 42 (nI (10 * y))) 84 43 (nI (10 * y))) 84 44 (nI (10 * y)))
    refine ⟨g2, a1, eqO_trans (eqO_sI (eqO_sI (eqO_sI (eqO_sI (eqO_refl _ _) (by decide)) (by decide)) (by decide)) (by decide)) a2, fun k => ?_⟩
    rw [a3]
    unfold kpR
    simp only [hI_sI', z, if_true]
    by_cases k39 : k = 39
    · subst k39; simp [z]
    by_cases k40 : k = 40
    · subst k40; simp
    by_cases k41 : k = 41
    · subst k41; simp
    by_cases k42 : k = 42
    · subst k42; simp
    by_cases k43 : k = 43
    · subst k43; simp
    by_cases k44 : k = 44
    · subst k44; simp
    simp [k39, k40, k41, k42, k43, k44]
  · rw [if_neg z]
    obtain ⟨g2, a1, a2, a3⟩ := e244 g
    refine ⟨g2, a1, a2, fun k => ?_⟩
    rw [a3]
    unfold kpR
    by_cases k39 : k = 39
    · subst k39; simp
    by_cases k40 : k = 40
    · subst k40; simp [z]
    by_cases k41 : k = 41
    · subst k41; simp
    by_cases k42 : k = 42
    · subst k42; simp [z]
    by_cases k43 : k = 43
    · subst k43; simp [z]
    by_cases k44 : k = 44
    · subst k44; simp [z]
    simp [k39, k40, k41, k42, k43, k44]
