/-! the law: the reference splits the tape -/
def s93 (j : Nat) : Bool := decide (j = 93)
def sSp (j : Nat) : Bool := decide (j = 84) || (decide (92 ≤ j) && decide (j ≤ 94))
theorem s93_Sp (j : Nat) (h : sSp j = false) : s93 j = false := by
  unfold sSp at h
  simp only [Bool.or_eq_false_iff, Bool.and_eq_false_iff, decide_eq_false_iff_not] at h
  unfold s93
  rw [decide_eq_false (by omega)]
theorem p_sp169 {y : Nat → Nat} {n f e m : Nat} {h : Hp} (T : TYr y n h) (hen : e ≤ n) (hfe : f ≤ e) (hm : m < 401) (e15 : hI h 84 15 = nI m) (hf : f < n) (hd : soB (y f) = 2) (hr : ∀ i, f ≤ i → i < e → soB (y i) = 2) : ∀ (q i : Nat) (g : Hp), f + i + q = e → eqO s93 h g → hI g 93 m = nI (vrG y f i) → (∀ x, x ≠ m → hI g 93 x = hI h 93 x) → ∃ g2, lp (fun q : Int32 × Int32 × Int32 × Int32 × Hp => s_Mod_splits_169 q.1 q.2.1 q.2.2.1 q.2.2.2.1 q.2.2.2.2) (nI n, z_i2b (nI (y f)), nI e, nI (f + i), g) = some (.inl (nI n, nI e, sI g2 84 15 (nI (m + 1)))) ∧ eqO s93 h g2 ∧ hI g2 93 m = nI (vrG y f (e - f)) ∧ ∀ x, x ≠ m → hI g2 93 x = hI h 93 x := by
  have hn := T.1
  obtain ⟨y1, -⟩ := T.2.1 f hf
  obtain ⟨-, w2, -⟩ := i2b_all (y f) y1
  rw [if_pos hd] at w2
  intro q
  induction q with
  | zero =>
    intro i g hi E R O
    have e15g : hI g 84 15 = nI m := by rw [(E.2 84 (by decide)).1]; exact e15
    refine ⟨g, lp_inr ?_, E, by rw [show e - f = i by omega]; exact R, O⟩
    show s_Mod_splits_169 (nI n) (z_i2b (nI (y f))) (nI e) (nI (f + i)) g = _
    unfold s_Mod_splits_169 s_Mod_splits_247
    rw [if_pos (by rw [nI_leI (by omega) (by omega)]; omega), e15g, nI_1]
    rfl
  | succ q ih =>
    intro i g hi E R O
    have e15g : hI g 84 15 = nI m := by rw [(E.2 84 (by decide)).1]; exact e15
    obtain ⟨b1, b2⟩ := T.2.1 (f + i) (by omega)
    have e90 : hI g 90 (f + i) = nI (y (f + i)) := by
      rw [(E.2 90 (by decide)).1, b2]
      have := so2 (hr (f + i) (by omega) (by omega))
      exact (i2b_all (y (f + i)) b1).2.2.2.2.1 (by omega)
    have dg := so2 (hr (f + i) (by omega) (by omega))
    have vb := vrG_b y f (fun i => Nat.lt_or_ge _ _) i (fun x hx => by have := so2 (hr (f + x) (by omega) (by omega)); omega)
    have s1 : s_Mod_splits_169 (nI n) (z_i2b (nI (y f))) (nI e) (nI (f + i)) g = some (.inl (nI n, z_i2b (nI (y f)), nI e, nI (f + (i + 1)), sI g 93 m (nI (vrG y f (i + 1))))) := by
      unfold s_Mod_splits_169 s_Mod_splits_240
      rw [if_neg (by rw [nI_leI (by omega) (by omega)]; omega), p_isDigit, Option.bind_some, w2, if_neg (show ¬ (1 : Int32) = 0 by decide), e15g, ib_nI hm (by decide), show ix (nI m) = m from nI_clamp (by omega), R, vrG]
      by_cases z : 1000000 < vrG y f i
      · rw [if_neg (by rw [show (1000000 : Int32) = nI 1000000 from rfl, nI_leI (by omega) (by decide)]; omega), ib_nI hm (by decide), ib_nI hm (by decide), if_pos z, nI_1]
        rfl
      · rw [if_pos (by rw [show (1000000 : Int32) = nI 1000000 from rfl, nI_leI (by omega) (by decide)]; omega), ib_nI hm (by decide), ib_nI (by omega) (by decide), ib_nI hm (by decide), show ix (nI (f + i)) = f + i from nI_clamp (by omega), e90, if_neg z, nI_1, show (10 : Int32) = nI 10 from rfl, nI_mul, nI_add, show (48 : Int32) = nI 48 from rfl, nI_sub (by omega), show 10 * vrG y f i + y (f + i) - 48 = 10 * vrG y f i + (y (f + i) - 48) by omega]
        rfl
    rw [lp_inl s1]
    refine ih (i + 1) _ (by omega) (eqO_sI E (by decide)) (by rw [hI_sI', if_pos ⟨rfl, rfl⟩]) (fun x hx => by rw [hI_sI', if_neg (fun z => hx z.2)]; exact O x hx)
/-- token m is set down -/
def SPm (y : Nat → Nat) (n m : Nat) (f e : Nat) (h g : Hp) : Prop := eqO sSp h g ∧ (∀ q, hI g 84 q = if q = 15 then nI (m + 1) else hI h 84 q) ∧ (∀ q, hI g 94 q = if q = m then nI f else hI h 94 q) ∧ (∀ q, hI g 92 q = if q = m then nI (if soB (y f) = 1 then wcF (tW y f e) wdS 1 else if soB (y f) = 2 then 50 else 100 + y f) else hI h 92 q) ∧ ∀ q, hI g 93 q = if q = m then nI (if soB (y f) = 2 then vrG y f (e - f) else 0) else hI h 93 q
theorem p_sp165 {y : Nat → Nat} {n m f e c : Nat} {h : Hp} (T : TYr y n h) (hen : e ≤ n) (hfe : f < e) (hm : m < 401) (e15 : hI h 84 15 = nI m) (hr : ∀ i, f ≤ i → i < e → soB (y i) = soB (y f)) (ec : c = if soB (y f) = 1 then wcF (tW y f e) wdS 1 else if soB (y f) = 2 then 50 else 100 + y f) (e93 : hI h 93 m = 0) : ∃ g, s_Mod_splits_165 (nI n) (nI f) (z_i2b (nI (y f))) (nI e) (nI c) (nI m) h = some (.inl (nI n, nI e, g)) ∧ eqO sSp h g ∧ (∀ q, hI g 84 q = if q = 15 then nI (m + 1) else hI h 84 q) ∧ hI g 94 = hI h 94 ∧ (∀ q, hI g 92 q = if q = m then nI c else hI h 92 q) ∧ ∀ q, hI g 93 q = if q = m then nI (if soB (y f) = 2 then vrG y f (e - f) else 0) else hI h 93 q := by
  have hn := T.1
  obtain ⟨y1, -⟩ := T.2.1 f (by omega)
  obtain ⟨-, w2, -⟩ := i2b_all (y f) y1
  have T1 : TYr y n (sI h 92 m (nI c)) := TYr_eq T (hI_sI_ne (by decide)) (hI_sI_ne (by decide))
  have E1 : hI (sI h 92 m (nI c)) 84 15 = nI m := by rw [hI_sI_ne (by decide)]; exact e15
  unfold s_Mod_splits_165
  rw [ib_nI hm (by decide), show ix (nI m) = m from nI_clamp (by omega)]
  by_cases d : soB (y f) = 2
  · obtain ⟨g2, a1, a2, a3, a4⟩ := p_sp169 (m := m) (e := e) T1 hen (by omega) hm E1 (by omega) d (fun i h1 h2 => (hr i h1 h2).trans d) (e - f) 0 (sI h 92 m (nI c)) (by omega) (eqO_refl _ _) (by rw [hI_sI_ne (by decide)]; exact e93) (fun _ _ => rfl)
    refine ⟨_, a1, eqO_sI (eqO_trans (eqO_sI (eqO_refl _ _) (by decide)) (eqO_mono a2 s93_Sp)) (by decide), fun q => ?_, ?_, fun q => ?_, fun q => ?_⟩
    · rw [hI_sI', (a2.2 84 (by decide)).1, hI_sI_ne (by decide)]
      by_cases z : q = 15
      · rw [if_pos ⟨rfl, z⟩, if_pos z]
      · rw [if_neg (fun u => z u.2), if_neg z]
    · rw [hI_sI_ne (by decide), (a2.2 94 (by decide)).1, hI_sI_ne (by decide)]
    · rw [hI_sI_ne (by decide), (a2.2 92 (by decide)).1, hI_sI']
      by_cases z : q = m
      · rw [if_pos ⟨rfl, z⟩, if_pos z]
      · rw [if_neg (fun u => z u.2), if_neg z]
    · rw [hI_sI_ne (by decide), if_pos d]
      by_cases z : q = m
      · rw [if_pos z, z]; exact a3
      · rw [if_neg z, a4 q z, hI_sI_ne (by decide)]
  · rw [if_neg d] at w2
    refine ⟨sI (sI h 92 m (nI c)) 84 15 (nI (m + 1)), lp_inr ?_, eqO_sI (eqO_sI (eqO_refl _ _) (by decide)) (by decide), fun q => ?_, ?_, fun q => ?_, fun q => ?_⟩
    · show s_Mod_splits_169 (nI n) (z_i2b (nI (y f))) (nI e) (nI f) _ = _
      unfold s_Mod_splits_169 s_Mod_splits_247
      rw [if_neg (by rw [nI_leI (by omega) (by omega)]; omega), p_isDigit, Option.bind_some, w2, if_pos rfl, E1, nI_1]
      rfl
    · rw [hI_sI', hI_sI_ne (by decide)]
      by_cases z : q = 15
      · rw [if_pos ⟨rfl, z⟩, if_pos z]
      · rw [if_neg (fun u => z u.2), if_neg z]
    · rw [hI_sI_ne (by decide), hI_sI_ne (by decide)]
    · rw [hI_sI_ne (by decide), hI_sI']
      by_cases z : q = m
      · rw [if_pos ⟨rfl, z⟩, if_pos z]
      · rw [if_neg (fun u => z u.2), if_neg z]
    · rw [hI_sI_ne (by decide), hI_sI_ne (by decide), if_neg d]
      by_cases z : q = m
      · rw [if_pos z, z]; exact e93
      · rw [if_neg z]
theorem p_sp100 {y : Nat → Nat} {n m f e : Nat} {h : Hp} (T : TYr y n h) (hen : e ≤ n) (hfe : f < e) (hm : m < 401) (e15 : hI h 84 15 = nI m) (hr : ∀ i, f ≤ i → i < e → soB (y i) = soB (y f)) : ∃ g, s_Mod_splits_100 (nI n) (nI f) (z_i2b (nI (y f))) (nI e) h = some (.inl (nI n, nI e, g)) ∧ SPm y n m f e h g := by
  have hn := T.1
  obtain ⟨y1, -⟩ := T.2.1 f (by omega)
  obtain ⟨w1, w2, w3, -⟩ := i2b_all (y f) y1
  have T2 : TYr y n (sI (sI h 94 m (nI f)) 93 m 0) := TYr_eq T (by rw [hI_sI_ne (by decide), hI_sI_ne (by decide)]) (by rw [hI_sI_ne (by decide), hI_sI_ne (by decide)])
  have E2 : hI (sI (sI h 94 m (nI f)) 93 m 0) 84 15 = nI m := by rw [hI_sI_ne (by decide), hI_sI_ne (by decide)]; exact e15
  have Z2 : hI (sI (sI h 94 m (nI f)) 93 m 0) 93 m = 0 := by rw [hI_sI', if_pos ⟨rfl, rfl⟩]
  obtain ⟨g, a1, a2, a3, a4, a5, a6⟩ := p_sp165 (c := if soB (y f) = 1 then wcF (tW y f e) wdS 1 else if soB (y f) = 2 then 50 else 100 + y f) T2 hen hfe hm E2 hr rfl Z2
  refine ⟨g, ?_, eqO_trans (eqO_sI (eqO_sI (eqO_refl _ _) (by decide)) (by decide)) a2, fun q => ?_, fun q => ?_, fun q => ?_, fun q => ?_⟩
  · unfold s_Mod_splits_100
    rw [e15, ib_nI hm (by decide), show ix (nI m) = m from nI_clamp (by omega), lt_eq, hI_sI_ne (by decide), e15, ib_nI hm (by decide), show ix (nI m) = m from nI_clamp (by omega), lt_eq, p_isSmall, Option.bind_some, w1, p_isDigit, w2, E2]
    rcases soB_e (y f) with s | s | s
    · rw [if_pos s, if_neg (show ¬ (1 : Int32) = 0 by decide), p_wordOf T2 (by omega) hen, Option.bind_some]
      rw [if_pos s] at a1
      exact a1
    · rw [if_neg (show ¬ soB (y f) = 1 by omega), if_pos rfl, Option.bind_some, if_pos s, if_neg (show ¬ (1 : Int32) = 0 by decide)]
      rw [if_neg (show ¬ soB (y f) = 1 by omega), if_pos s] at a1
      exact a1
    · rw [if_neg (show ¬ soB (y f) = 1 by omega), if_pos rfl, Option.bind_some, if_neg (show ¬ soB (y f) = 2 by omega), if_pos rfl, w3, show (100 : Int32) = nI 100 from rfl, nI_add]
      rw [if_neg (show ¬ soB (y f) = 1 by omega), if_neg (show ¬ soB (y f) = 2 by omega)] at a1
      exact a1
  · rw [a3, hI_sI_ne (by decide), hI_sI_ne (by decide)]
  · rw [a4, hI_sI_ne (by decide), hI_sI']
    by_cases z : q = m
    · rw [if_pos ⟨rfl, z⟩, if_pos z]
    · rw [if_neg (fun u => z u.2), if_neg z]
  · rw [a5, hI_sI_ne (by decide), hI_sI_ne (by decide)]
  · rw [a6, hI_sI', hI_sI_ne (by decide)]
    by_cases z : q = m
    · rw [if_pos z, if_pos z]
    · rw [if_neg z, if_neg z, if_neg (fun u => z u.2)]
theorem p_sp75 {y : Nat → Nat} {n f : Nat} {h : Hp} {r : Int32 × Int32 × Hp} (T : TYr y n h) (hf : f < n) (hd : soB (y f) = 2) (R : s_Mod_splits_100 (nI n) (nI f) (z_i2b (nI (y f))) (nI (rn y n 2 (f + 1))) h = some (.inl r)) : ∀ (q a : Nat), a + q = n → rn y n 2 a = rn y n 2 (f + 1) → lp (fun q : Int32 × Int32 × Int32 × Int32 × Hp => s_Mod_splits_75 q.1 q.2.1 q.2.2.1 q.2.2.2.1 q.2.2.2.2) (nI n, nI f, z_i2b (nI (y f)), nI a, h) = some (.inl r) := by
  have hn := T.1
  intro q
  induction q with
  | zero =>
    intro a ha e
    rw [rn_stop (Or.inl (by omega))] at e
    refine lp_inr ?_
    show s_Mod_splits_75 (nI n) (nI f) (z_i2b (nI (y f))) (nI a) h = _
    unfold s_Mod_splits_75
    rw [if_pos (by rw [nI_leI (by omega) (by omega)]; omega), e, R]
    rfl
  | succ q ih =>
    intro a ha e
    obtain ⟨b1, b2⟩ := T.2.1 a (by omega)
    obtain ⟨-, w2, -⟩ := i2b_all (y a) b1
    by_cases z : soB (y a) = 2
    · rw [if_pos z] at w2
      rw [rn_go (by omega) z] at e
      rw [← ih (a + 1) (by omega) e]
      refine lp_inl ?_
      show s_Mod_splits_75 (nI n) (nI f) (z_i2b (nI (y f))) (nI a) h = _
      unfold s_Mod_splits_75
      rw [if_neg (by rw [nI_leI (by omega) (by omega)]; omega), ib_nI (by omega) (by decide), show ix (nI a) = a from nI_clamp (by omega), b2, p_isDigit, Option.bind_some, w2, if_neg (show ¬ (1 : Int32) = 0 by decide), nI_1]
    · rw [if_neg z] at w2
      rw [rn_stop (Or.inr z)] at e
      refine lp_inr ?_
      show s_Mod_splits_75 (nI n) (nI f) (z_i2b (nI (y f))) (nI a) h = _
      unfold s_Mod_splits_75
      rw [if_neg (by rw [nI_leI (by omega) (by omega)]; omega), ib_nI (by omega) (by decide), show ix (nI a) = a from nI_clamp (by omega), b2, p_isDigit, Option.bind_some, w2, if_pos rfl, e, R]
      rfl
theorem p_sp43 {y : Nat → Nat} {n f : Nat} {h : Hp} {r : Int32 × Int32 × Hp} (T : TYr y n h) (hf : f < n) (hd : soB (y f) = 1) (R : s_Mod_splits_100 (nI n) (nI f) (z_i2b (nI (y f))) (nI (rn y n 1 (f + 1))) h = some (.inl r)) : ∀ (q a : Nat), a + q = n → rn y n 1 a = rn y n 1 (f + 1) → lp (fun q : Int32 × Int32 × Int32 × Int32 × Hp => s_Mod_splits_43 q.1 q.2.1 q.2.2.1 q.2.2.2.1 q.2.2.2.2) (nI n, nI f, z_i2b (nI (y f)), nI a, h) = some (.inl r) := by
  have hn := T.1
  obtain ⟨y1, -⟩ := T.2.1 f hf
  obtain ⟨-, v2, -⟩ := i2b_all (y f) y1
  rw [if_neg (by omega)] at v2
  have R68 : s_Mod_splits_68 (nI n) (nI f) (z_i2b (nI (y f))) (nI (rn y n 1 (f + 1))) h = some (.inl r) := by
    unfold s_Mod_splits_68
    rw [p_isDigit, Option.bind_some, v2, if_pos rfl, R]
  intro q
  induction q with
  | zero =>
    intro a ha e
    rw [rn_stop (Or.inl (by omega))] at e
    refine lp_inr ?_
    show s_Mod_splits_43 (nI n) (nI f) (z_i2b (nI (y f))) (nI a) h = _
    unfold s_Mod_splits_43
    rw [if_pos (by rw [nI_leI (by omega) (by omega)]; omega), e, R68]
    rfl
  | succ q ih =>
    intro a ha e
    obtain ⟨b1, b2⟩ := T.2.1 a (by omega)
    obtain ⟨w1, -⟩ := i2b_all (y a) b1
    by_cases z : soB (y a) = 1
    · rw [if_pos z] at w1
      rw [rn_go (by omega) z] at e
      rw [← ih (a + 1) (by omega) e]
      refine lp_inl ?_
      show s_Mod_splits_43 (nI n) (nI f) (z_i2b (nI (y f))) (nI a) h = _
      unfold s_Mod_splits_43
      rw [if_neg (by rw [nI_leI (by omega) (by omega)]; omega), ib_nI (by omega) (by decide), show ix (nI a) = a from nI_clamp (by omega), b2, p_isSmall, Option.bind_some, w1, if_neg (show ¬ (1 : Int32) = 0 by decide), nI_1]
    · rw [if_neg z] at w1
      rw [rn_stop (Or.inr z)] at e
      refine lp_inr ?_
      show s_Mod_splits_43 (nI n) (nI f) (z_i2b (nI (y f))) (nI a) h = _
      unfold s_Mod_splits_43
      rw [if_neg (by rw [nI_leI (by omega) (by omega)]; omega), ib_nI (by omega) (by decide), show ix (nI a) = a from nI_clamp (by omega), b2, p_isSmall, Option.bind_some, w1, if_pos rfl, e, R68]
      rfl
theorem p_sp7 {y : Nat → Nat} {n m f : Nat} {h : Hp} (T : TYr y n h) (hf : f < n) (hm : m < 401) (e15 : hI h 84 15 = nI m) (hb : ¬ y f = 32) : ∃ g, s_Mod_splits_7 (nI n) (nI f) h = some (.inl (nI n, nI (enT y n f), g)) ∧ SPm y n m f (enT y n f) h g := by
  have hn := T.1
  obtain ⟨y1, y2⟩ := T.2.1 f hf
  obtain ⟨w1, w2, w3, w4, -⟩ := i2b_all (y f) y1
  have eb := enT_b (y := y) (n := n) (f := f) (by omega)
  have hr : ∀ i, f ≤ i → i < enT y n f → soB (y i) = soB (y f) := fun i h1 h2 => by
    unfold enT at h2
    rw [if_pos hf] at h2
    by_cases w : soB (y f) = 3
    · rw [if_pos w] at h2
      rw [show i = f by omega]
    · rw [if_neg w] at h2
      rcases (show i = f ∨ f + 1 ≤ i by omega) with z | z
      · rw [z]
      · exact (rn_b (y := y) (n := n) (s := soB (y f)) (n - (f + 1)) (f + 1) (by omega)).2.2 i z h2
  obtain ⟨g, a1, a2⟩ := p_sp100 (e := enT y n f) T eb.2.1 (eb.2.2 hf) hm e15 hr
  refine ⟨g, ?_, a2⟩
  unfold s_Mod_splits_7
  rw [if_neg (by rw [nI_leI (by omega) (by omega)]; omega), ib_nI (by omega) (by decide), show ix (nI f) = f from nI_clamp (by omega), y2, if_neg (fun z => hb (w4.mp z)), p_isSmall, Option.bind_some, w1, nI_1]
  rcases soB_e (y f) with s | s | s
  · rw [if_pos s, if_neg (show ¬ (1 : Int32) = 0 by decide)]
    have ee : enT y n f = rn y n 1 (f + 1) := by unfold enT; rw [if_pos hf, if_neg (by omega), s]
    rw [ee] at a1 ⊢
    exact p_sp43 T hf s a1 (n - (f + 1)) (f + 1) (by omega) rfl
  · rw [if_neg (show ¬ soB (y f) = 1 by omega), if_pos rfl]
    unfold s_Mod_splits_68
    rw [p_isDigit, Option.bind_some, w2, if_pos s, if_neg (show ¬ (1 : Int32) = 0 by decide)]
    have ee : enT y n f = rn y n 2 (f + 1) := by unfold enT; rw [if_pos hf, if_neg (by omega), s]
    rw [ee] at a1 ⊢
    exact p_sp75 T hf s a1 (n - (f + 1)) (f + 1) (by omega) rfl
  · rw [if_neg (show ¬ soB (y f) = 1 by omega), if_pos rfl]
    unfold s_Mod_splits_68
    rw [p_isDigit, Option.bind_some, w2, if_neg (show ¬ soB (y f) = 2 by omega), if_pos rfl]
    have ee : enT y n f = f + 1 := by unfold enT; rw [if_pos hf, if_pos s]
    rw [ee] at a1 ⊢
    exact a1
/-- the reference's tokens -/
def TKr (y : Nat → Nat) (n N : Nat) (h : Hp) : Prop := N ≤ n ∧ n ≤ 400 ∧ tF y n N = n ∧ (∀ i, i < N → tF y n i < n) ∧ ∀ i, i ≤ N → hI h 92 i = nI (tC y n i) ∧ hI h 93 i = nI (tV y n i) ∧ hI h 94 i = nI (tF y n i)
theorem p_splits {y : Nat → Nat} {n : Nat} {h : Hp} (T : TYr y n h) : ∃ N g, s_Mod_splits (nI n) h = some g ∧ eqO sSp h g ∧ (∀ q, hI g 84 q = if q = 15 then nI N else hI h 84 q) ∧ TKr y n N g := by
  have hn := T.1
  have loop : ∀ (q p m : Nat) (g : Hp), p + q = n → m ≤ p → sk y n p = tF y n m → (∀ i, i < m → tF y n i < n) → eqO sSp h g → (∀ q, hI g 84 q = if q = 15 then nI m else hI h 84 q) → (∀ i, i < m → hI g 92 i = nI (tC y n i) ∧ hI g 93 i = nI (tV y n i) ∧ hI g 94 i = nI (tF y n i)) → ∃ N g2, lp (fun q : Int32 × Int32 × Hp => s_Mod_splits_7 q.1 q.2.1 q.2.2) (nI n, nI p, g) = some g2 ∧ eqO sSp h g2 ∧ (∀ q, hI g2 84 q = if q = 15 then nI N else hI h 84 q) ∧ TKr y n N g2 := by
    intro q
    induction q using Nat.strongRecOn with
    | _ q ih =>
      intro p m g hp hm es hF E e84 R
      have e15 : hI g 84 15 = nI m := by rw [e84, if_pos rfl]
      have Tg : TYr y n g := TYr_eq T (E.2 90 (by decide)).1 (E.2 89 (by decide)).1
      by_cases z : p < n
      · by_cases b : y p = 32
        · have s1 : s_Mod_splits_7 (nI n) (nI p) g = some (.inl (nI n, nI (p + 1), g)) := by
            obtain ⟨y1, y2⟩ := Tg.2.1 p z
            unfold s_Mod_splits_7
            rw [if_neg (by rw [nI_leI (by omega) (by omega)]; omega), ib_nI (by omega) (by decide), show ix (nI p) = p from nI_clamp (by omega), y2, if_pos ((i2b_all (y p) y1).2.2.2.1.mpr b), nI_1]
          rw [lp_inl s1]
          exact ih (q - 1) (by omega) (p + 1) m g (by omega) (by omega) (by rw [← sk_go z b]; exact es) hF E e84 R
        · have ef : tF y n m = p := by rw [← es, sk_stop (Or.inr b)]
          obtain ⟨g2, a1, a2, a3, a4, a5, a6⟩ := p_sp7 (m := m) Tg z (by omega) e15 b
          have eb := enT_b (y := y) (n := n) (f := p) (by omega)
          have eS : tS y n m = soB (y p) := by unfold tS; rw [ef, if_pos z]
          rw [lp_inl a1]
          refine ih (n - enT y n p) (by omega) (enT y n p) (m + 1) g2 (by omega) (by omega) (by rw [tF, ef]) (fun i hi => ?_) (eqO_trans E a2) (fun q => ?_) (fun i hi => ?_)
          · rcases (show i < m ∨ i = m by omega) with u | u
            · exact hF i u
            · rw [u, ef]; exact z
          · rw [a3, e84]
            by_cases u : q = 15
            · rw [if_pos u, if_pos u]
            · rw [if_neg u, if_neg u, if_neg u]
          · rcases (show i < m ∨ i = m by omega) with u | u
            · rw [a5, if_neg (by omega), a6, if_neg (by omega), a4, if_neg (by omega)]
              exact R i u
            · rw [a5, if_pos u, a6, if_pos u, a4, if_pos u, u]
              unfold tC tV tE
              rw [ef, eS]
              refine ⟨?_, rfl, rfl⟩
              have sb := soB_e (y p)
              rw [if_neg (show ¬ soB (y p) = 0 by omega)]
      · have ep : p = n := by omega
        have ef : tF y n m = n := by rw [← es, ep, sk_stop (Or.inl (Nat.le_refl _))]
        have e0 : tS y n m = 0 := by unfold tS; rw [ef, if_neg (by omega)]
        refine ⟨m, sI (sI (sI g 94 m (nI n)) 92 m 0) 93 m 0, lp_inr ?_, eqO_sI (eqO_sI (eqO_sI E (by decide)) (by decide)) (by decide), fun q => ?_, by omega, hn, ef, hF, fun i hi => ?_⟩
        · show s_Mod_splits_7 (nI n) (nI p) g = _
          unfold s_Mod_splits_7
          rw [if_pos (by rw [nI_leI (by omega) (by omega)]; omega), e15, ib_nI (by omega) (by decide), lt_eq, hI_sI_ne (by decide), e15, ib_nI (by omega) (by decide), lt_eq, hI_sI_ne (by decide), hI_sI_ne (by decide), e15, ib_nI (by omega) (by decide), show ix (nI m) = m from nI_clamp (by omega)]
        · rw [hI_sI_ne (by decide), hI_sI_ne (by decide), hI_sI_ne (by decide)]; exact e84 q
        · rcases (show i < m ∨ i = m by omega) with u | u
          · rw [hI_sI_ne (by decide), hI_sI', if_neg (by omega), hI_sI_ne (by decide), hI_sI', if_neg (by omega), hI_sI_ne (by decide), hI_sI_ne (by decide), hI_sI_ne (by decide), hI_sI_ne (by decide), hI_sI', if_neg (by omega)]
            exact R i u
          · rw [hI_sI_ne (by decide), hI_sI', if_pos ⟨rfl, u⟩, hI_sI', if_pos ⟨rfl, u⟩, hI_sI_ne (by decide), hI_sI_ne (by decide), hI_sI', if_pos ⟨rfl, u⟩, u, tC_end e0, ef]
            refine ⟨rfl, ?_, rfl⟩
            unfold tV
            rw [if_neg (by omega)]
            rfl
  unfold s_Mod_splits
  exact loop n 0 0 (sI h 84 15 0) (by omega) (by omega) rfl (fun i hi => absurd hi (by omega)) (eqO_sI (eqO_refl _ _) (by decide)) (fun q => by
    rw [hI_sI']
    by_cases u : q = 15
    · rw [if_pos ⟨rfl, u⟩, if_pos u]; rfl
    · rw [if_neg (fun v => u v.2), if_neg u]) (fun i hi => absurd hi (by omega))
