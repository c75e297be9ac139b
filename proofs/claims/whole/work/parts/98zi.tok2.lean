/-! the law: the class's words and numbers -/
def wJ (j : Nat) : Nat := [1, 2, 7, 8, 9, 10, 11, 12, 13, 3, 6, 5, 4].getD j 0
def swJ (j : Nat) : List Nat := wdS.getD (wJ j - 1) []
theorem swJ_ok : ∀ j, j < 13 → lenKS.getD j 0 = (swJ j).length ∧ (swJ j).length < 9 ∧ j < nKS ∧ ∀ i, i < (swJ j).length → sc_c j i = nI ((swJ j).getD i 0) ∧ (swJ j).getD i 0 < 256 := by decide +kernel
theorem swJ_wc : ∀ j, j < 13 → wcF (swJ j) wdS 1 = wJ j ∧ 0 < wJ j ∧ wJ j < 14 := by decide +kernel
theorem wcF_in (l : List Nat) : ∀ (ws : List (List Nat)) (j : Nat), 0 < j → wcF l ws j = 0 ∨ (j ≤ wcF l ws j ∧ l = ws.getD (wcF l ws j - j) [])
  | [], j, _ => Or.inl rfl
  | w :: ws, j, hj => by
    rw [wcF]
    by_cases z : l = w
    · rw [if_pos z]
      refine Or.inr ⟨Nat.le_refl _, ?_⟩
      rw [Nat.sub_self]
      exact z
    · rw [if_neg z]
      rcases wcF_in l ws (j + 1) (by omega) with h | ⟨h1, h2⟩
      · exact Or.inl h
      · refine Or.inr ⟨by omega, ?_⟩
        rw [show wcF l ws (j + 1) - j = (wcF l ws (j + 1) - (j + 1)) + 1 by omega, List.getD_cons_succ]
        exact h2
theorem wcF_iff {l : List Nat} {j : Nat} (hj : j < 13) : wcF l wdS 1 = wJ j ↔ l = swJ j := by
  obtain ⟨a1, a2, a3⟩ := swJ_wc j hj
  constructor
  · intro e
    rcases wcF_in l wdS 1 (by decide) with h | ⟨-, h⟩
    · omega
    · rw [e] at h
      exact h
  · intro e
    rw [e]; exact a1
theorem tW_eq {y : Nat → Nat} {f e : Nat} {l : List Nat} (h : e - f = l.length) : tW y f e = l ↔ ∀ i, i < l.length → y (f + i) = l.getD i 0 := by
  constructor
  · intro z i hi
    have h1 : (tW y f e).getD i 0 = l.getD i 0 := by rw [z]
    rw [← h1]
    unfold tW
    rw [List.getD_eq_getElem?_getD, List.getElem?_map, List.getElem?_range (by omega)]
    rfl
  · intro z
    unfold tW
    apply List.ext_getElem
    · rw [List.length_map, List.length_range, h]
    · intro i h1 h2
      have := z i h2
      rw [List.getElem_map, List.getElem_range, this, List.getD_eq_getElem?_getD, List.getElem?_eq_getElem h2]
      rfl
theorem tW_len {y : Nat → Nat} {f e : Nat} : (tW y f e).length = e - f := by unfold tW; rw [List.length_map, List.length_range]
theorem p_isWord {y : Nat → Nat} {n k j : Nat} {h : Hp} (C : CK y n k h) (hj : j < 13) : s_Reader_isWord j h = some (if tC y n k = wJ j then 1 else 0) := by
  have hn := C.1.1
  obtain ⟨q1, q2, q3, q4⟩ := swJ_ok j hj
  obtain ⟨w1, w2, w3⟩ := swJ_wc j hj
  have eb := tE_b (y := y) (n := n) (k := k)
  unfold s_Reader_isWord s_Reader_isWord_24
  rw [C.2.1]
  by_cases z : tS y n k = 1
  · rw [z, if_pos (show nI 1 = 1 from rfl), kc, if_pos q3, C.2.2.1, C.2.2.2, nI_sub eb.1, q1, tC_word z]
    have hf : tF y n k < n := by
      rcases tS_e y n k with x | x
      · omega
      · exact x.1
    by_cases e : tE y n k - tF y n k = (swJ j).length
    · rw [if_pos (by rw [e])]
      have loop : ∀ (q i : Nat), i + q = (swJ j).length → (∀ x, x < i → y (tF y n k + x) = (swJ j).getD x 0) → lp (fun q : Nat × Int32 => s_Reader_isWord_28 q.1 q.2 h) (j, nI i) = some (if wcF (tW y (tF y n k) (tE y n k)) wdS 1 = wJ j then 1 else 0) := by
        intro q
        induction q with
        | zero =>
          intro i hi H
          refine lp_inr ?_
          show s_Reader_isWord_28 j (nI i) h = _
          unfold s_Reader_isWord_28
          rw [kc, if_pos q3, q1, if_pos (by rw [nI_leI (by omega) (by omega)]; omega), if_pos ((wcF_iff hj).mpr ((tW_eq e).mpr (fun x hx => H x (by omega))))]
        | succ q ih =>
          intro i hi H
          obtain ⟨b1, b2⟩ := C.1.2.2 (tF y n k + i) (by omega)
          obtain ⟨c1, c2⟩ := q4 i (by omega)
          by_cases v : y (tF y n k + i) = (swJ j).getD i 0
          · rw [← ih (i + 1) (by omega) (fun x hx => by
              rcases (show x < i ∨ x = i by omega) with u | u
              · exact H x u
              · rw [u]; exact v)]
            refine lp_inl ?_
            show s_Reader_isWord_28 j (nI i) h = _
            unfold s_Reader_isWord_28
            rw [kc, if_pos q3, q1, if_neg (by rw [nI_leI (by omega) (by omega)]; omega), C.2.2.1, nI_add, ib_nI (by omega) (by decide), kc, if_pos q3, ib_nI (by omega) (by omega), show ix (nI (tF y n k + i)) = tF y n k + i from nI_clamp (by omega), show ix (nI i) = i from nI_clamp (by omega), b2, c1, if_pos (by rw [v]), nI_1]
          · refine lp_inr ?_
            show s_Reader_isWord_28 j (nI i) h = _
            unfold s_Reader_isWord_28
            rw [kc, if_pos q3, q1, if_neg (by rw [nI_leI (by omega) (by omega)]; omega), C.2.2.1, nI_add, ib_nI (by omega) (by decide), kc, if_pos q3, ib_nI (by omega) (by omega), show ix (nI (tF y n k + i)) = tF y n k + i from nI_clamp (by omega), show ix (nI i) = i from nI_clamp (by omega), b2, c1, if_neg (by rw [nI_eq (by omega) (by omega)]; exact v), if_neg (fun u => v ((tW_eq e).mp ((wcF_iff hj).mp u) i (by omega)))]
      exact loop (swJ j).length 0 (by omega) (fun x hx => absurd hx (by omega))
    · rw [if_neg (by rw [nI_eq (by omega) (by omega)]; exact e), if_neg (fun u => e (by rw [← (wcF_iff hj).mp u]; exact tW_len.symm))]
  · have : ¬ tC y n k = wJ j := by
      rcases tS_e y n k with ⟨x, -⟩ | ⟨-, -, x | x | x⟩
      · rw [tC_end x]; omega
      · exact absurd x z
      · rw [tC_num x]; omega
      · rw [tC_oth x]; omega
    rw [if_neg this, if_neg (by rw [show (1 : Int32) = nI 1 from rfl, nI_eq (by rcases tS_e y n k with ⟨x, -⟩ | ⟨-, -, x | x | x⟩ <;> omega) (by decide)]; exact z)]
theorem vrG_b (y : Nat → Nat) (f : Nat) (hy : ∀ i, y i < 256 ∨ 256 ≤ y i) : ∀ i, (∀ x, x < i → y (f + x) < 58) → vrG y f i < 20000000
  | 0, _ => by rw [vrG]; omega
  | i + 1, h => by
    have ih := vrG_b y f hy i (fun x hx => h x (by omega))
    have := h i (by omega)
    rw [vrG]
    split <;> omega
theorem so2 {b : Nat} (h : soB b = 2) : 48 ≤ b ∧ b ≤ 57 := by
  unfold soB at h
  split at h
  · omega
  · split at h
    · assumption
    · omega
theorem so1 {b : Nat} (h : soB b = 1) : 97 ≤ b ∧ b ≤ 122 := by
  unfold soB at h
  split at h
  · assumption
  · split at h <;> omega
theorem so3 {b : Nat} (h : soB b = 3) : ¬ (97 ≤ b ∧ b ≤ 122) ∧ ¬ (48 ≤ b ∧ b ≤ 57) := by
  unfold soB at h
  split at h
  · omega
  · split at h
    · omega
    · constructor <;> assumption
theorem tV_dig {y : Nat → Nat} {n k : Nat} (z : tS y n k = 2) : tF y n k < n ∧ ∀ i, tF y n k + i < tE y n k → 48 ≤ y (tF y n k + i) ∧ y (tF y n k + i) ≤ 57 := by
  have hf : tF y n k < n := by
    rcases tS_e y n k with x | x
    · omega
    · exact x.1
  have hs : soB (y (tF y n k)) = 2 := by
    rcases tS_e y n k with x | x
    · omega
    · rw [← x.2.1]; exact z
  exact ⟨hf, fun i hi => so2 ((tF_run hf _ (by omega) hi).trans hs)⟩
theorem tV_b {y : Nat → Nat} {n k : Nat} : tV y n k < 20000000 := by
  unfold tV
  by_cases z : tS y n k = 2
  · rw [if_pos z]
    refine vrG_b y _ (fun i => Nat.lt_or_ge _ _) _ (fun x hx => ?_)
    have := (tV_dig z).2 x (by omega)
    omega
  · rw [if_neg z]; omega
theorem p_number {y : Nat → Nat} {n k : Nat} {h : Hp} (C : CK y n k h) (z : tS y n k = 2) : s_Reader_numberHere h = some (nI (min (tV y n k) 1001)) := by
  have hn := C.1.1
  have eb := tE_b (y := y) (n := n) (k := k)
  obtain ⟨d1, d2⟩ := tV_dig z
  unfold s_Reader_numberHere tV
  rw [if_pos z, C.2.2.1]
  have loop : ∀ (q i : Nat), i + q = tE y n k - tF y n k → lp (fun q : Int32 × Int32 => s_Reader_numberHere_7 q.1 q.2 h) (nI (min (vrG y (tF y n k) i) 1001), nI (tF y n k + i)) = some (nI (min (vrG y (tF y n k) (tE y n k - tF y n k)) 1001)) := by
    intro q
    induction q with
    | zero =>
      intro i hi
      refine lp_inr ?_
      show s_Reader_numberHere_7 (nI (min (vrG y (tF y n k) i) 1001)) (nI (tF y n k + i)) h = _
      unfold s_Reader_numberHere_7
      rw [C.2.2.2, if_pos (by rw [nI_leI (by omega) (by omega)]; omega), show i = tE y n k - tF y n k by omega]
    | succ q ih =>
      intro i hi
      have dg := d2 i (by omega)
      obtain ⟨b1, b2⟩ := C.1.2.2 (tF y n k + i) (by omega)
      rw [← ih (i + 1) (by omega)]
      refine lp_inl ?_
      show s_Reader_numberHere_7 (nI (min (vrG y (tF y n k) i) 1001)) (nI (tF y n k + i)) h = _
      unfold s_Reader_numberHere_7
      have e1 : nI (min (vrG y (tF y n k) i) 1001) * 10 + nI (y (tF y n k + i)) - 48 = nI (min (vrG y (tF y n k) i) 1001 * 10 + (y (tF y n k + i)) - 48) := by
        rw [show (10 : Int32) = nI 10 from rfl, nI_mul, nI_add, show (48 : Int32) = nI 48 from rfl, nI_sub (by omega)]
      rw [C.2.2.2, if_neg (by rw [nI_leI (by omega) (by omega)]; omega), ib_nI (by omega) (by decide), show ix (nI (tF y n k + i)) = tF y n k + i from nI_clamp (by omega), b2, e1, show (1001 : Int32) = nI 1001 from rfl, z_min_nI (by omega) (by decide), lt_eq, nI_1]
      have e2 : min (min (vrG y (tF y n k) i) 1001 * 10 + y (tF y n k + i) - 48) 1001 = min (vrG y (tF y n k) (i + 1)) 1001 := by
        rw [vrG]
        split <;> omega
      rw [e2]
      rfl
  exact loop (tE y n k - tF y n k) 0 (by omega)
theorem p_wordHere {y : Nat → Nat} {n k : Nat} {h : Hp} (C : CK y n k h) : s_Reader_wordHere h = some (if 7 ≤ tC y n k ∧ tC y n k ≤ 13 then nI (tC y n k - 7) else -1) := by
  unfold s_Reader_wordHere s_Reader_wordHere_93
  have w : ∀ j, j < 13 → s_Reader_isWord j h = some (if tC y n k = wJ j then 1 else 0) := fun j hj => p_isWord C hj
  rw [w 2 (by decide), w 3 (by decide), w 4 (by decide), w 5 (by decide), w 6 (by decide), w 7 (by decide), w 8 (by decide)]
  simp only [Option.bind_some, show wJ 2 = 7 from rfl, show wJ 3 = 8 from rfl, show wJ 4 = 9 from rfl, show wJ 5 = 10 from rfl, show wJ 6 = 11 from rfl, show wJ 7 = 12 from rfl, show wJ 8 = 13 from rfl]
  by_cases z : 7 ≤ tC y n k ∧ tC y n k ≤ 13
  · rw [if_pos z]
    rcases (show tC y n k = 7 ∨ tC y n k = 8 ∨ tC y n k = 9 ∨ tC y n k = 10 ∨ tC y n k = 11 ∨ tC y n k = 12 ∨ tC y n k = 13 by omega) with e | e | e | e | e | e | e <;> rw [e] <;> rfl
  · rw [if_neg z, if_neg (show ¬ tC y n k = 7 by omega), if_neg (show ¬ tC y n k = 8 by omega), if_neg (show ¬ tC y n k = 9 by omega), if_neg (show ¬ tC y n k = 10 by omega), if_neg (show ¬ tC y n k = 11 by omega), if_neg (show ¬ tC y n k = 12 by omega), if_neg (show ¬ tC y n k = 13 by omega)]
    rfl
