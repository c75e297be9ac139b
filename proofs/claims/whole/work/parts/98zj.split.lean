/-! the law: the reference's tokens -/
theorem i2b_all : ∀ b, b < 256 → wi (z_i2b (nI b)) 97 122 = (if soB b = 1 then 1 else 0) ∧ wi (z_i2b (nI b)) 48 57 = (if soB b = 2 then 1 else 0) ∧ z_i2b (nI b) &&& 255 = nI b ∧ (z_i2b (nI b) = 32 ↔ b = 32) ∧ (b < 128 → z_i2b (nI b) = nI b) ∧ (128 ≤ b → z_i2b (nI b) < 0) := by decide +kernel
theorem p_isSmall (v : Int32) (h : Hp) : s_Mod_isSmall v h = some (wi v 97 122) := by
  simp only [s_Mod_isSmall, s_Mod_isSmall_16, s_Mod_isSmall_17, wi, bz_0, bz_1]
  split
  · rfl
  · split <;> rfl
theorem p_isDigit (v : Int32) (h : Hp) : s_Mod_isDigit v h = some (wi v 48 57) := by
  simp only [s_Mod_isDigit, s_Mod_isDigit_16, s_Mod_isDigit_17, wi, bz_0, bz_1]
  split
  · rfl
  · split <;> rfl
def TYr (y : Nat → Nat) (n : Nat) (h : Hp) : Prop := n ≤ 400 ∧ (∀ i, i < n → y i < 256 ∧ hI h 90 i = z_i2b (nI (y i))) ∧ WD h
theorem TYr_eq {y : Nat → Nat} {n : Nat} {h h2 : Hp} (T : TYr y n h) (e1 : hI h2 90 = hI h 90) (e2 : hI h2 89 = hI h 89) : TYr y n h2 := by
  unfold TYr WD; rw [e1, e2]; exact T
theorem byt_c {b c : Nat} (hb : b < 256) (hc : c < 128) : nI c = z_i2b (nI b) ↔ b = c := by
  obtain ⟨-, -, -, -, h1, h2⟩ := i2b_all b hb
  by_cases z : b < 128
  · rw [h1 z, nI_eq (by omega) (by omega)]; omega
  · constructor
    · intro e
      exfalso
      have := h2 (by omega)
      rw [← e] at this
      exact absurd this (Int32.not_lt.mpr (nI_le (a := 0) (Nat.zero_le _) (by omega)))
    · intro e; omega
def wOf (j : Nat) : Nat := [0, 6, 12, 15, 18, 22, 26, 31, 36, 43, 48, 54, 59, 68].getD j 0
def wdJ (j : Nat) : List Nat := wdS.getD j []
theorem wOf_ok : ∀ j, j < 13 → wOf (j + 1) = wOf j + (wdJ j).length + 1 ∧ wOf j + (wdJ j).length < 68 ∧ 0 < (wdJ j).length ∧ (wdJ j).length < 9 ∧ wdL.getD (wOf j + (wdJ j).length) 0 = 32 ∧ ∀ i, i < (wdJ j).length → wdL.getD (wOf j + i) 0 = nI ((wdJ j).getD i 0) ∧ (wdJ j).getD i 0 < 128 ∧ ¬ wdL.getD (wOf j + i) 0 = 32 := by decide +kernel
theorem p_wo57 {y : Nat → Nat} {n f e j : Nat} {h : Hp} (T : TYr y n h) (hj : j < 13) (hfe : f ≤ e) (hen : e ≤ n) (el : e - f = (wdJ j).length) : ∀ (q i : Nat), i + q = (wdJ j).length → (∀ x, x < i → y (f + x) = (wdJ j).getD x 0) → lp (fun q : Int32 × Int32 × Int32 × Int32 × Int32 × Int32 × Int32 => s_Mod_wordOf_57 q.1 q.2.1 q.2.2.1 q.2.2.2.1 q.2.2.2.2.1 q.2.2.2.2.2.1 q.2.2.2.2.2.2 h) (nI f, nI e, nI (j + 1), nI (wOf j), nI (wdJ j).length, 1, nI i) = some (if tW y f e = wdJ j then .inr (nI (j + 1)) else .inl (nI f, nI e, nI (j + 2), nI (wOf (j + 1)))) := by
  have hn := T.1
  obtain ⟨o1, o2, o3, o4, o5, o6⟩ := wOf_ok j hj
  intro q
  induction q with
  | zero =>
    intro i hi H
    refine lp_inr ?_
    show s_Mod_wordOf_57 (nI f) (nI e) (nI (j + 1)) (nI (wOf j)) (nI (wdJ j).length) 1 (nI i) h = _
    unfold s_Mod_wordOf_57 s_Mod_wordOf_104
    rw [if_pos (by rw [nI_leI (by omega) (by omega)]; omega), if_neg (show ¬ (1 : Int32) = 0 by decide), if_pos ((tW_eq el).mpr (fun x hx => H x (by omega)))]
    rfl
  | succ q ih =>
    intro i hi H
    obtain ⟨b1, b2⟩ := T.2.1 (f + i) (by omega)
    obtain ⟨c1, c2, -⟩ := o6 i (by omega)
    have w89 : hI h 89 (wOf j + i) = nI ((wdJ j).getD i 0) := (T.2.2 (wOf j + i) (by omega)).trans c1
    by_cases v : y (f + i) = (wdJ j).getD i 0
    · rw [← ih (i + 1) (by omega) (fun x hx => by
        rcases (show x < i ∨ x = i by omega) with u | u
        · exact H x u
        · rw [u]; exact v)]
      refine lp_inl ?_
      show s_Mod_wordOf_57 (nI f) (nI e) (nI (j + 1)) (nI (wOf j)) (nI (wdJ j).length) 1 (nI i) h = _
      unfold s_Mod_wordOf_57 s_Mod_wordOf_96
      rw [if_neg (by rw [nI_leI (by omega) (by omega)]; omega), if_neg (show ¬ (1 : Int32) = 0 by decide), nI_add, nI_add, ib_nI (by omega) (by decide), ib_nI (by omega) (by decide), show ix (nI (wOf j + i)) = wOf j + i from nI_clamp (by omega), show ix (nI (f + i)) = f + i from nI_clamp (by omega), w89, b2, if_pos ((byt_c b1 c2).mpr v), nI_1]
    · have s1 : s_Mod_wordOf_57 (nI f) (nI e) (nI (j + 1)) (nI (wOf j)) (nI (wdJ j).length) 1 (nI i) h = some (.inl (nI f, nI e, nI (j + 1), nI (wOf j), nI (wdJ j).length, 0, nI (i + 1))) := by
        unfold s_Mod_wordOf_57 s_Mod_wordOf_96
        rw [if_neg (by rw [nI_leI (by omega) (by omega)]; omega), if_neg (show ¬ (1 : Int32) = 0 by decide), nI_add, nI_add, ib_nI (by omega) (by decide), ib_nI (by omega) (by decide), show ix (nI (wOf j + i)) = wOf j + i from nI_clamp (by omega), show ix (nI (f + i)) = f + i from nI_clamp (by omega), w89, b2, if_neg (fun z => v ((byt_c b1 c2).mp z)), nI_1]
      rw [lp_inl s1, if_neg (fun z => v ((tW_eq el).mp z i (by omega)))]
      refine lp_inr ?_
      show s_Mod_wordOf_57 (nI f) (nI e) (nI (j + 1)) (nI (wOf j)) (nI (wdJ j).length) 0 (nI (i + 1)) h = _
      unfold s_Mod_wordOf_57 s_Mod_wordOf_104
      rw [if_pos (show (0 : Int32) = 0 from rfl), if_pos (show (0 : Int32) = 0 from rfl), nI_1, nI_1, nI_add, o1]
      split <;> rfl
theorem p_wo18 {y : Nat → Nat} {n f e j : Nat} {h : Hp} (T : TYr y n h) (hj : j < 13) (hfe : f ≤ e) (hen : e ≤ n) : ∀ (q i : Nat), i + q = (wdJ j).length → lp (fun q : Int32 × Int32 × Int32 × Int32 × Int32 => s_Mod_wordOf_18 q.1 q.2.1 q.2.2.1 q.2.2.2.1 q.2.2.2.2 h) (nI f, nI e, nI (j + 1), nI (wOf j), nI i) = some (if tW y f e = wdJ j then .inr (nI (j + 1)) else .inl (nI f, nI e, nI (j + 2), nI (wOf (j + 1)))) := by
  have hn := T.1
  obtain ⟨o1, o2, o3, o4, o5, o6⟩ := wOf_ok j hj
  intro q
  induction q with
  | zero =>
    intro i hi
    have hi : i = (wdJ j).length := by omega
    have w89 : hI h 89 (wOf j + i) = 32 := by rw [hi]; exact (T.2.2 (wOf j + (wdJ j).length) (by omega)).trans o5
    refine lp_inr ?_
    show s_Mod_wordOf_18 (nI f) (nI e) (nI (j + 1)) (nI (wOf j)) (nI i) h = _
    unfold s_Mod_wordOf_18 s_Mod_wordOf_52
    rw [nI_add, ib_nI (by omega) (by decide), show ix (nI (wOf j + i)) = wOf j + i from nI_clamp (by omega), w89, if_pos rfl, nI_sub hfe, hi]
    by_cases z : e - f = (wdJ j).length
    · have := p_wo57 T hj hfe hen z (wdJ j).length 0 (by omega) (fun x hx => absurd hx (by omega))
      have t2 : lp (fun q : Int32 × Int32 × Int32 × Int32 × Int32 × Int32 × Int32 => s_Mod_wordOf_57 q.1 q.2.1 q.2.2.1 q.2.2.2.1 q.2.2.2.2.1 q.2.2.2.2.2.1 q.2.2.2.2.2.2 h) (nI f, nI e, nI (j + 1), nI (wOf j), nI (wdJ j).length, 1, 0) = _ := this
      rw [if_pos (by rw [z]), t2]
      rfl
    · rw [if_neg (by rw [nI_eq (by omega) (by omega)]; omega)]
      have t2 : lp (fun q : Int32 × Int32 × Int32 × Int32 × Int32 × Int32 × Int32 => s_Mod_wordOf_57 q.1 q.2.1 q.2.2.1 q.2.2.2.1 q.2.2.2.2.1 q.2.2.2.2.2.1 q.2.2.2.2.2.2 h) (nI f, nI e, nI (j + 1), nI (wOf j), nI (wdJ j).length, 0, 0) = some (.inl (nI f, nI e, nI (j + 2), nI (wOf (j + 1)))) := by
        refine lp_inr ?_
        show s_Mod_wordOf_57 (nI f) (nI e) (nI (j + 1)) (nI (wOf j)) (nI (wdJ j).length) 0 0 h = _
        unfold s_Mod_wordOf_57 s_Mod_wordOf_104
        rw [if_pos (show (0 : Int32) = 0 from rfl), if_pos (show (0 : Int32) = 0 from rfl), nI_1, nI_1, nI_add, o1]
        split <;> rfl
      rw [t2, if_neg (fun u => z (by rw [← u]; exact tW_len.symm))]
      rfl
  | succ q ih =>
    intro i hi
    obtain ⟨c1, c2, c3⟩ := o6 i (by omega)
    have w89 : hI h 89 (wOf j + i) = wdL.getD (wOf j + i) 0 := T.2.2 (wOf j + i) (by omega)
    rw [← ih (i + 1) (by omega)]
    refine lp_inl ?_
    show s_Mod_wordOf_18 (nI f) (nI e) (nI (j + 1)) (nI (wOf j)) (nI i) h = _
    unfold s_Mod_wordOf_18
    rw [nI_add, ib_nI (by omega) (by decide), show ix (nI (wOf j + i)) = wOf j + i from nI_clamp (by omega), w89, if_neg c3, nI_1]
theorem wdS_drop : ∀ j, j < 13 → wdS.drop j = wdJ j :: wdS.drop (j + 1) := by decide +kernel
theorem p_wordOf {y : Nat → Nat} {n f e : Nat} {h : Hp} (T : TYr y n h) (hfe : f ≤ e) (hen : e ≤ n) : s_Mod_wordOf (nI f) (nI e) h = some (nI (wcF (tW y f e) wdS 1)) := by
  have loop : ∀ (q j : Nat), j + q = 13 → lp (fun q : Int32 × Int32 × Int32 × Int32 => s_Mod_wordOf_5 q.1 q.2.1 q.2.2.1 q.2.2.2 h) (nI f, nI e, nI (j + 1), nI (wOf j)) = some (nI (wcF (tW y f e) (wdS.drop j) (j + 1))) := by
    intro q
    induction q with
    | zero =>
      intro j hj
      have hj : j = 13 := by omega
      subst hj
      refine lp_inr ?_
      show s_Mod_wordOf_5 (nI f) (nI e) (nI 14) (nI 68) h = _
      unfold s_Mod_wordOf_5
      rw [if_pos (show (68 : Int32) ≤ nI 68 by decide)]
      rfl
    | succ q ih =>
      intro j hj
      have hj2 : j < 13 := by omega
      obtain ⟨o1, o2, o3, o4, o5, o6⟩ := wOf_ok j hj2
      have s1 : s_Mod_wordOf_5 (nI f) (nI e) (nI (j + 1)) (nI (wOf j)) h = some (if tW y f e = wdJ j then .inr (nI (j + 1)) else .inl (nI f, nI e, nI (j + 2), nI (wOf (j + 1)))) := by
        unfold s_Mod_wordOf_5
        rw [if_neg (by rw [show (68 : Int32) = nI 68 from rfl, nI_leI (by decide) (by omega)]; omega)]
        exact p_wo18 T hj2 hfe hen (wdJ j).length 0 (by omega)
      rw [wdS_drop j hj2, wcF]
      by_cases z : tW y f e = wdJ j
      · rw [if_pos z] at s1 ⊢
        exact lp_inr s1
      · rw [if_neg z] at s1 ⊢
        rw [lp_inl s1]
        exact ih (j + 1) (by omega)
  unfold s_Mod_wordOf
  exact loop 13 0 (by omega)
