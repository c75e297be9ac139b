/-! ways: the way itself -/
theorem snF_some {P : Nat → Bool} : ∀ (r s d : Nat), s ≤ d → d < s + r → P d = true → ∃ x, snF P r s = some x
  | 0, s, d, h1, h2, _ => absurd h2 (by omega)
  | r + 1, s, d, h1, h2, h3 => by
    rw [snF]
    by_cases z : P s = true
    · rw [if_pos z]; exact ⟨s, rfl⟩
    · rw [if_neg z]
      have : s ≠ d := fun y => z (by rw [y]; exact h3)
      exact snF_some r (s + 1) d (by omega) (by omega) h3
theorem wl_chain {T : TF} {K : Nat → Int32} {b s0 a t u : Nat} (rg : Rg K) (hu : s0 ≤ u) (ht : t < 50) (e : rch T K b s0 a (u - s0) t = true) : ∀ j, j ≤ u - s0 → ∃ c, c < 50 ∧ rch T K b s0 a (u - s0 - j) c = true ∧ wlB T K b t u j c = true
  | 0, _ => ⟨t, ht, e, by rw [wlB]; exact decide_eq_true rfl⟩
  | j + 1, hj => by
    obtain ⟨d, h1, h2, h3⟩ := wl_chain rg hu ht e j (by omega)
    rw [show u - s0 - j = (u - s0 - (j + 1)) + 1 by omega] at h2
    obtain ⟨-, c, c1, c2, c3⟩ := rch_s.mp h2
    refine ⟨c, c1, c2, ?_⟩
    have ec := rch_can rg _ c c2
    rw [show s0 + (u - s0 - (j + 1)) = u - (j + 1) by omega] at c3 ec
    rw [wlB, Bool.and_eq_true]
    exact ⟨(gB_5 c1).mpr ⟨d, h1, h3, c3⟩, ec⟩
theorem wcl_lt {T : TF} {K : Nat → Int32} {b s0 a t u : Nat} (ha : a < 50) : ∀ i, wcl T K b s0 a t u i < 50
  | 0 => ha
  | i + 1 => nxt_lt (wcl_lt ha i)
theorem nxt_ok {T : TF} {K : Nat → Int32} {b s c : Nat} {L : Nat → Bool} (h : ∃ d, d < 50 ∧ L d = true ∧ ed T K b s c d) : L (nxt T K b s c L) = true ∧ ed T K b s c (nxt T K b s c L) := by
  obtain ⟨d, h1, h2, h3⟩ := h
  obtain ⟨x, e⟩ := snF_some (P := fun d => edB T K b s c d && L d) 50 0 d (by omega) (by omega) (by rw [h2, edB_e.mpr h3]; rfl)
  have := (snF_b 50 0 x e).2.2
  rw [Bool.and_eq_true, edB_e] at this
  unfold nxt
  rw [e]
  exact ⟨this.2, this.1⟩
theorem way_ok {T : TF} {K : Nat → Int32} {b s0 a t u : Nat} (rg : Rg K) (hu : s0 ≤ u) (ha : a < 50) (ht : t < 50) (e : rch T K b s0 a (u - s0) t = true) : ∀ i, i ≤ u - s0 → rch T K b s0 a i (wcl T K b s0 a t u i) = true ∧ wlB T K b t u (u - (s0 + i)) (wcl T K b s0 a t u i) = true
  | 0, _ => by
    obtain ⟨c, c1, c2, c3⟩ := wl_chain rg hu ht e (u - s0) (Nat.le_refl _)
    rw [Nat.sub_self] at c2
    have c4 := c2
    rw [rch, Bool.and_eq_true, decide_eq_true_eq] at c4
    rw [c4.1] at c2 c3
    exact ⟨c2, c3⟩
  | i + 1, hi => by
    obtain ⟨h1, h2⟩ := way_ok rg hu ha ht e i (by omega)
    rw [show u - (s0 + i) = (u - (s0 + i + 1)) + 1 by omega, wlB, Bool.and_eq_true, gB_5 (wcl_lt ha i), show u - (u - (s0 + i + 1) + 1) = s0 + i by omega] at h2
    obtain ⟨n1, n2⟩ := nxt_ok h2.1
    refine ⟨rch_s.mpr ⟨nxt_lt (wcl_lt ha i), _, wcl_lt ha i, h1, n2⟩, n1⟩
/-- no move goes further back than ten cells -/
theorem ed_lo {T : TF} {K : Nat → Int32} {b s c d : Nat} (rg : Rg K) (hs : s + 1 < 144) (hc : c < 50) (e : ed T K b s c d) : c - 10 ≤ d := by
  obtain ⟨mv, h1, h2⟩ := e
  have := ((beh_e rg hs hc).mp h2).1
  unfold toC at this
  repeat' split at this
  all_goals first | (cases this; omega) | cases this
theorem p_way86 {τ : Nat → TF} {K : Nat → Int32} {b s0 a t u m : Nat} {g : Hp} (X : WX τ K b g) (hu : s0 ≤ u) (hu2 : u < 144) (ha : a < 50) (ht : t < 50) (e : rch (tin τ K) K b s0 a (u - s0) t = true) (hm : m ≤ u) (W : ∀ s2, s0 ≤ s2 → s2 ≤ u → ∀ c, c < 50 → bt (hL g 66 s2) c = wlB (tin τ K) K b t u (u - s2) c) : ∀ (q i : Nat), s0 + i + q = m → lp (fun q : Int32 × Int32 × Int32 × Hp => s_Ways_cellOnWay_86 q.1 q.2.1 q.2.2.1 q.2.2.2) (nI m, nI (wcl (tin τ K) K b s0 a t u i), nI (s0 + i), g) = some (nI (wcl (tin τ K) K b s0 a t u (m - s0)), g) := by
  have rg := X.1.1.1.2.1
  intro q
  induction q with
  | zero =>
    intro i hi
    refine lp_inr ?_
    show s_Ways_cellOnWay_86 (nI m) (nI (wcl (tin τ K) K b s0 a t u i)) (nI (s0 + i)) g = _
    unfold s_Ways_cellOnWay_86
    rw [if_pos (by rw [nI_leI (by omega) (by omega)]; omega), show m - s0 = i by omega]
  | succ q ih =>
    intro i hi
    obtain ⟨w1, w2⟩ := way_ok rg hu ha ht e i (by omega)
    have hc := wcl_lt (T := tin τ K) (K := K) (b := b) (s0 := s0) (t := t) (u := u) ha i
    obtain ⟨r, r1, r2, r3⟩ := p_reached X (s := s0 + i) (v := z_lshl 1 (nI (wcl (tin τ K) K b s0 a t u i))) (by omega) (hiz_one hc) (fun c hc2 z => by
      rw [bt_one hc hc2, decide_eq_true_eq] at z
      rw [← z]
      exact canB_k rg hc (rch_can rg _ _ w1))
    have bits : ∀ d, d < 50 → bt (r &&& hL g 66 (s0 + i + 1)) d = (edB (tin τ K) K b (s0 + i) (wcl (tin τ K) K b s0 a t u i) d && wlB (tin τ K) K b t u (u - (s0 + i + 1)) d) := fun d hd => by
      rw [bt_and, W (s0 + i + 1) (by omega) (by omega) d hd]
      congr 1
      apply Bool.eq_iff_iff.mpr
      rw [r3 d hd, edB_e]
      constructor
      · rintro ⟨c, c1, c2, c3⟩
        rw [bt_one hc c1, decide_eq_true_eq] at c2
        rw [c2]; exact c3
      · intro z
        exact ⟨_, hc, by rw [bt_one hc hc]; exact decide_eq_true rfl, z⟩
    have stp : s_Ways_cellOnWay_86 (nI m) (nI (wcl (tin τ K) K b s0 a t u i)) (nI (s0 + i)) g = some (.inl (nI m, nI (wcl (tin τ K) K b s0 a t u (i + 1)), nI (s0 + (i + 1)), g)) := by
      unfold s_Ways_cellOnWay_86
      rw [if_neg (by rw [nI_leI (by omega) (by omega)]; omega), r1, Option.bind_some, nI_1, ib_nI (by omega) (by decide), show ix (nI (s0 + i + 1)) = s0 + i + 1 from nI_clamp (by omega), p_lowest hc g (fun d hd => ?_), Option.bind_some]
      · rw [snF_congr (Q := fun d => edB (tin τ K) K b (s0 + i) (wcl (tin τ K) K b s0 a t u i) d && wlB (tin τ K) K b t u (u - (s0 + i + 1)) d) 50 0 (fun d _ hd => bits d (by omega))]
        rfl
      · rw [bits d (by omega)]
        cases z : edB (tin τ K) K b (s0 + i) (wcl (tin τ K) K b s0 a t u i) d
        · rfl
        · have := ed_lo rg (by omega) hc (edB_e.mp z)
          omega
    rw [lp_inl stp]
    exact ih (i + 1) (by omega)
