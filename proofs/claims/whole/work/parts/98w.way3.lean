/-! ways: way, the class's answer -/
def wyO (T : TF) (K : Nat → Int32) (b s0 a t m : Nat) : Option Nat := match snO T K b s0 a t with
  | none => none
  | some u => if s0 ≤ m ∧ m ≤ u then some (wcl T K b s0 a t u (m - s0)) else none
theorem nI_dn : ∀ s : Fin 145, nI s.1 - 1 < nI s.1 := by decide +kernel
theorem p_cow {τ : Nat → TF} {K : Nat → Int32} {b s0 a t m : Nat} {h : Hp} (X : WX τ K b h) (hs0 : s0 < 144) (ha : a < 50) (ht : t < 50) (hm : m < 144) : ∃ h2, s_Ways_cellOnWay (nI s0) (nI a) (nI t) (nI m) h = some (oI (wyO (tin τ K) K b s0 a t m), h2) ∧ eqO (fun j => decide (j = 66)) h h2 := by
  have rg := X.1.1.1.2.1
  unfold s_Ways_cellOnWay s_Ways_cellOnWay_28 wyO
  rw [p_first X hs0 ha ht, Option.bind_some]
  cases eu : snO (tin τ K) K b s0 a t with
  | none =>
    rw [if_pos (show oI none = -1 from rfl)]
    exact ⟨h, rfl, eqO_refl _ _⟩
  | some u =>
    obtain ⟨u1, u2, u3⟩ := snF_b _ _ _ eu
    have hu2 : u < 144 := by omega
    show ∃ h2, _ = some (oI (if s0 ≤ m ∧ m ≤ u then some (wcl (tin τ K) K b s0 a t u (m - s0)) else none), h2) ∧ _
    rw [show oI (some u) = nI u from rfl, if_neg (nI_m1 (by omega))]
    by_cases z1 : m < s0
    · rw [if_pos (by rw [nI_ltI (by omega) (by omega)]; exact z1), if_neg (by omega)]
      exact ⟨h, rfl, eqO_refl _ _⟩
    rw [if_neg (by rw [nI_ltI (by omega) (by omega)]; exact z1)]
    by_cases z2 : m ≤ u
    · rw [if_pos (by rw [nI_leI (by omega) (by omega)]; exact z2), if_pos ⟨by omega, z2⟩, ib_nI hu2 (by decide), show ix (nI u) = u from nI_clamp (by omega)]
      have ct : canB (tin τ K) K b t (10 * u) = true := by
        have := rch_can rg _ _ u3
        rw [show s0 + (u - s0) = u by omega] at this
        exact this
      have loop : ∀ (q k : Nat) (g : Hp), k = s0 + q → k ≤ u → eqO (fun j => decide (j = 66)) h g → (∀ s2, k ≤ s2 → s2 ≤ u → hiz (hL g 66 s2) ∧ ∀ c, c < 50 → bt (hL g 66 s2) c = wlB (tin τ K) K b t u (u - s2) c) → ∃ h2, lp (fun q : Int32 × Int32 × Int32 × Int32 × Hp => s_Ways_cellOnWay_46 q.1 q.2.1 q.2.2.1 q.2.2.2.1 q.2.2.2.2) (nI s0, nI a, nI m, nI k - 1, g) = some (nI (wcl (tin τ K) K b s0 a t u (m - s0)), h2) ∧ eqO (fun j => decide (j = 66)) h h2 := by
        intro q
        induction q with
        | zero =>
          intro k g hk hku E W
          have hk : k = s0 := by omega
          subst hk
          have := p_way86 (m := m) (WX_66 X E) u1 hu2 ha ht u3 z2 (fun s2 h1 h2 => (W s2 h1 h2).2) (m - k) 0 (by omega)
          refine ⟨g, lp_inr ?_, E⟩
          show s_Ways_cellOnWay_46 (nI k) (nI a) (nI m) (nI k - 1) g = _
          unfold s_Ways_cellOnWay_46
          rw [if_pos (nI_dn ⟨k, by omega⟩)]
          have this2 : lp (fun q : Int32 × Int32 × Int32 × Hp => s_Ways_cellOnWay_86 q.1 q.2.1 q.2.2.1 q.2.2.2) (nI m, nI a, nI k, g) = _ := this
          rw [this2]
          rfl
        | succ q ih =>
          intro k g hk hku E W
          have e1 : nI k - 1 = nI (k - 1) := by rw [show (1 : Int32) = nI 1 from rfl, nI_sub (by omega)]
          obtain ⟨w1, w2⟩ := W k (Nat.le_refl _) hku
          obtain ⟨r, r1, r2, r3⟩ := p_reaching (WX_66 X E) (s := k - 1) (by omega) w1 (fun d hd z => by
            rw [w2 d hd] at z
            rw [show k - 1 + 1 = k by omega]
            rcases Nat.lt_or_ge k u with y | y
            · rw [show u - k = (u - k - 1) + 1 by omega, wlB, Bool.and_eq_true, show u - (u - k - 1 + 1) = k by omega] at z
              exact z.2
            · have : u - k = 0 := by omega
              rw [this, wlB, decide_eq_true_eq] at z
              rw [z, show k = u by omega]
              exact ct)
          have stp : s_Ways_cellOnWay_46 (nI s0) (nI a) (nI m) (nI (k - 1)) g = some (.inl (nI s0, nI a, nI m, nI (k - 1) - 1, sL g 66 (k - 1) r)) := by
            unfold s_Ways_cellOnWay_46
            rw [if_neg (by rw [nI_ltI (by omega) (by omega)]; omega), nI_1, show k - 1 + 1 = k by omega, ib_nI (by omega) (by decide), show ix (nI k) = k from nI_clamp (by omega), r1, Option.bind_some, ib_nI (by omega) (by decide), show ix (nI (k - 1)) = k - 1 from nI_clamp (by omega), Int32.sub_eq_add_neg]
          rw [e1, lp_inl stp]
          refine ih (k - 1) _ (by omega) (by omega) (eqO_sL E (by decide)) (fun s2 h1 h2 => ?_)
          rw [hL_sL']
          by_cases y : s2 = k - 1
          · rw [if_pos ⟨rfl, y⟩]
            refine ⟨r2, fun c hc => ?_⟩
            apply Bool.eq_iff_iff.mpr
            rw [r3 c hc, y, show u - (k - 1) = (u - k) + 1 by omega, wlB, Bool.and_eq_true, gB_5 hc, show u - (u - k + 1) = k - 1 by omega]
            constructor
            · rintro ⟨d1, d, d2, d3, d4⟩
              exact ⟨⟨d, d2, by rw [← w2 d d2]; exact d3, d4⟩, d1⟩
            · rintro ⟨⟨d, d2, d3, d4⟩, d1⟩
              exact ⟨d1, d, d2, by rw [w2 d d2]; exact d3, d4⟩
          · rw [if_neg (fun w => y w.2)]
            exact W s2 (by omega) h2
      refine loop (u - s0) u _ (by omega) (Nat.le_refl _) (eqO_sL (eqO_refl _ _) (by decide)) (fun s2 h1 h2 => ?_)
      have : s2 = u := by omega
      rw [this, hL_sL', if_pos ⟨rfl, rfl⟩]
      refine ⟨hiz_one ht, fun c hc => ?_⟩
      rw [bt_one ht hc, Nat.sub_self, wlB]
      exact decide_eq_decide.mpr ⟨fun z => z.symm, fun z => z.symm⟩
    · rw [if_neg (by rw [nI_leI (by omega) (by omega)]; exact z2), if_neg (by omega)]
      exact ⟨h, rfl, eqO_refl _ _⟩
