/-! lost: the calls -/
theorem p_lost107 {τ : Nat → TF} {K : Nat → Int32} {h : Hp} (X : LX τ K h) {st k : Nat} {v : Nat → Nat} {v3 v4 : Int32} {v5 : Int64} (hk : st + k < 144) (hb : ∀ j, j < 52 → v j < 9223372036854775808) :
    ∀ (q j : Nat) (g : Hp), j + q = 52 → eqR h g → VA g 111 v → (∀ i, i < j → hL g 112 i = l6 (spF (tin τ K) K (10 * (st + k)) v 0 i)) → ∃ g2, lp (fun q : Int32 × Int32 × Int32 × Int64 × Int32 × Int32 × Hp => s_Mod_lost_107 q.1 q.2.1 q.2.2.1 q.2.2.2.1 q.2.2.2.2.1 q.2.2.2.2.2.1 q.2.2.2.2.2.2) (nI st, v3, v4, v5, nI k, nI j, g) = some (.inl (nI st, v3, v4, v5 * 200, nI (k + 1), g2)) ∧ eqR h g2 ∧ VA g2 111 (spF (tin τ K) K (10 * (st + k)) v 50) := by
  intro q
  induction q with
  | zero =>
    intro j g hj E V1 V2
    have hj : j = 52 := by omega
    subst hj
    obtain ⟨g2, a1, a2⟩ := p_lost152 (v3 := v3) (v4 := v4) (v5 := v5) X hk hb 50 0 g (by decide) E V1 V2
    refine ⟨g2, lp_inr ?_, a2⟩
    show s_Mod_lost_107 (nI st) v3 v4 v5 (nI k) (nI 52) g = _
    unfold s_Mod_lost_107
    rw [if_pos (show (52 : Int32) ≤ nI 52 by decide)]
    have a1 : lp (fun q : Int32 × Int32 × Int32 × Int64 × Int32 × Int32 × Hp => s_Mod_lost_152 q.1 q.2.1 q.2.2.1 q.2.2.2.1 q.2.2.2.2.1 q.2.2.2.2.2.1 q.2.2.2.2.2.2) (nI st, v3, v4, v5, nI k, (0 : Int32), g) = _ := a1
    rw [a1]
    rfl
  | succ q ih =>
    intro j g hj E V1 V2
    have E2 : eqV 112 g (sL g 112 j (l6 (spF (tin τ K) K (10 * (st + k)) v 0 j))) := eqV_sL (eqV_refl _ _)
    obtain ⟨g2, a1, a2⟩ := ih (j + 1) (sL g 112 j (l6 (spF (tin τ K) K (10 * (st + k)) v 0 j))) (by omega) (eqR_V E E2 (Or.inr rfl)) (fun i hi => by rw [hL_sL_ne (by decide)]; exact V1 i hi) (fun i hi => by
      rw [hL_sL]
      show (if i = j then l6 (spF (tin τ K) K (10 * (st + k)) v 0 j) else hL g 112 i) = _
      by_cases z : i = j
      · rw [if_pos z, z]
      · rw [if_neg z]; exact V2 i (by omega))
    refine ⟨g2, ?_, a2⟩
    rw [lp_inl (s' := (nI st, v3, v4, v5, nI k, nI (j + 1), sL g 112 j (l6 (spF (tin τ K) K (10 * (st + k)) v 0 j)))) ?_]
    · exact a1
    · show s_Mod_lost_107 (nI st) v3 v4 v5 (nI k) (nI j) g = _
      unfold s_Mod_lost_107 s_Mod_lost_142
      rw [if_neg (by rw [show (52 : Int32) = nI 52 from rfl, nI_leI (by decide) (by omega)]; omega), show ix (nI j) = j from nI_clamp (by omega), nI_1]
      have es : spF (tin τ K) K (10 * (st + k)) v 0 j = if j < 50 then 0 else v j * 200 := rfl
      rw [es]
      by_cases z : j < 50
      · rw [if_neg (by rw [show (50 : Int32) = nI 50 from rfl, nI_leI (by decide) (by omega)]; omega), if_pos z, ib_nI (by omega) (by decide)]
        rfl
      · rw [if_pos (by rw [show (50 : Int32) = nI 50 from rfl, nI_leI (by decide) (by omega)]; omega), if_neg z, ib_nI (by omega) (by decide), ib_nI (by omega) (by decide), V1 j (by omega), show (200 : Int64) = l6 200 from rfl, l6_mul]
theorem dig {b W : Nat} (hW : 0 < W) : (b * 10) / W = (b / W) * 10 + ((b % W) * 10) / W ∧ (b * 10) % W = ((b % W) * 10) % W := by
  have e : b * 10 = W * ((b / W) * 10) + (b % W) * 10 := by
    have := Nat.div_add_mod b W
    rw [← Nat.mul_assoc, ← Nat.add_mul, this]
  constructor
  · rw [e, Nat.mul_add_div hW]
  · rw [e, Nat.mul_add_mod]
theorem p_lost423 {h : Hp} {a n : Nat} (hn : n ≤ 6) (ha : a ≤ 200 ^ n) : lp (fun q : Int64 × Int64 × Int64 × Int32 × Hp => s_Mod_lost_423 q.1 q.2.1 q.2.2.1 q.2.2.2.1 q.2.2.2.2) (l6 (200 ^ n), l6 a / l6 (200 ^ n), z_lrem (l6 a) (l6 (200 ^ n)), 0, h) = some (Int64.toInt32 (l6 (lsA a n)), h) := by
  have pw : 0 < (200 : Nat) ^ n := Nat.pow_pos (by decide)
  have pb : (200 : Nat) ^ n ≤ 64000000000000 := Nat.le_trans (Nat.pow_le_pow_right (by decide) hn) (by decide)
  have key : ∀ (q i : Nat), i + q = 6 → lp (fun q : Int64 × Int64 × Int64 × Int32 × Hp => s_Mod_lost_423 q.1 q.2.1 q.2.2.1 q.2.2.2.1 q.2.2.2.2) (l6 (200 ^ n), l6 (a * 10 ^ i / 200 ^ n), l6 (a * 10 ^ i % 200 ^ n), nI i, h) = some (Int64.toInt32 (l6 (lsA a n)), h) := by
    intro q
    induction q with
    | zero =>
      intro i hi
      have hi : i = 6 := by omega
      subst hi
      refine lp_inr ?_
      show s_Mod_lost_423 _ _ _ (nI 6) h = _
      unfold s_Mod_lost_423
      rw [if_pos (show (6 : Int32) ≤ nI 6 by decide)]
      rfl
    | succ q ih =>
      intro i hi
      have d := dig (b := a * 10 ^ i) pw
      have ml := Nat.mod_lt (a * 10 ^ i) pw
      rw [lp_inl (s' := (l6 (200 ^ n), l6 (a * 10 ^ (i + 1) / 200 ^ n), l6 (a * 10 ^ (i + 1) % 200 ^ n), nI (i + 1), h)) ?_]
      · exact ih (i + 1) (by omega)
      · show s_Mod_lost_423 (l6 (200 ^ n)) (l6 (a * 10 ^ i / 200 ^ n)) (l6 (a * 10 ^ i % 200 ^ n)) (nI i) h = _
        unfold s_Mod_lost_423
        have ne : ¬ l6 (200 ^ n) = 0 := fun y => by
          have := (l6_eq (b := 0) (by omega) (by decide)).mp y
          omega
        rw [if_neg (by rw [show (6 : Int32) = nI 6 from rfl, nI_leI (by decide) (by omega)]; omega), cnL_some ne, lt_eq, cnL_some ne, show (10 : Int64) = l6 10 from rfl, l6_mul, l6_mul, l6_div (by omega) (by omega), l6_add, l6_rem (by omega) (by omega), nI_1, Nat.pow_succ, ← Nat.mul_assoc, d.1, d.2]
  have k0 := key 6 0 (by decide)
  rw [Nat.pow_zero, Nat.mul_one] at k0
  rw [l6_div (by omega) (by omega), l6_rem (by omega) (by omega)]
  exact k0
theorem p_lost98 {τ : Nat → TF} {K : Nat → Int32} {h : Hp} (X : LX τ K h) {st n w cell : Nat} (hc : cell < 50) (hn : n ≤ 6) (hst : st + n < 144) (hw : w < 52) :
    ∀ (q k : Nat) (g : Hp), k + q = n → eqR h g → VA g 111 (vcF (tin τ K) K cell st k) → ∃ g2, lp (fun q : Int32 × Int32 × Int32 × Int64 × Int32 × Hp => s_Mod_lost_98 q.1 q.2.1 q.2.2.1 q.2.2.2.1 q.2.2.2.2.1 q.2.2.2.2.2) (nI st, nI n, nI w, l6 (200 ^ k), nI k, g) = some (Int64.toInt32 (l6 (lsA (vcF (tin τ K) K cell st n w) n)), g2) ∧ eqR h g2 := by
  intro q
  induction q with
  | zero =>
    intro k g hk E V
    have hk : k = n := by omega
    subst hk
    obtain ⟨b1, b2⟩ := vcF_b (T := tin τ K) (K := K) (step := st) hc hn hw
    have pw : 0 < (200 : Nat) ^ k := Nat.pow_pos (by decide)
    have ne : ¬ l6 (200 ^ k) = 0 := fun y => by
      have := (l6_eq (b := 0) (by omega) (by decide)).mp y
      omega
    refine ⟨g, lp_inr ?_, E⟩
    show s_Mod_lost_98 (nI st) (nI k) (nI w) (l6 (200 ^ k)) (nI k) g = _
    unfold s_Mod_lost_98
    rw [if_pos (Int32.le_refl _), ib_nI hw (by decide), cnL_some ne, ib_nI hw (by decide), cnL_some ne, show ix (nI w) = w from nI_clamp (by omega), V w hw, p_lost423 hn b1]
    rfl
  | succ q ih =>
    intro k g hk E V
    have bb : ∀ j, j < 52 → vcF (tin τ K) K cell st k j < 9223372036854775808 := fun j hj => by
      have := vcF_b (T := tin τ K) (K := K) (step := st) hc (show k ≤ 6 by omega) hj
      omega
    obtain ⟨g2, a1, a2, a3⟩ := p_lost107 (v3 := nI n) (v4 := nI w) (v5 := l6 (200 ^ k)) X (show st + k < 144 by omega) bb 52 0 g (by decide) E V (fun i hi => absurd hi (by omega))
    have pw : l6 (200 ^ k) * 200 = l6 (200 ^ (k + 1)) := by rw [show (200 : Int64) = l6 200 from rfl, l6_mul, Nat.pow_succ]
    rw [pw] at a1
    obtain ⟨g3, b1, b2⟩ := ih (k + 1) g2 (by omega) a2 a3
    refine ⟨g3, ?_, b2⟩
    rw [lp_inl (s' := (nI st, nI n, nI w, l6 (200 ^ (k + 1)), nI (k + 1), g2)) ?_]
    · exact b1
    · show s_Mod_lost_98 (nI st) (nI n) (nI w) (l6 (200 ^ k)) (nI k) g = _
      unfold s_Mod_lost_98
      rw [if_neg (by rw [nI_leI (by omega) (by omega)]; omega)]
      exact a1
theorem p_lost61 {τ : Nat → TF} {K : Nat → Int32} {h : Hp} (X : LX τ K h) {st n w cell : Nat} (hc : cell < 50) (hn : n ≤ 6) (hst : st + n < 144) (hw : w < 52) :
    ∀ (q j : Nat) (g : Hp), j + q = 52 → eqR h g → (∀ i, i < j → hL g 111 i = l6 (vcF (tin τ K) K cell st 0 i)) → ∃ g2, lp (fun q : Int32 × Int32 × Int32 × Int32 × Int32 × Hp => s_Mod_lost_61 q.1 q.2.1 q.2.2.1 q.2.2.2.1 q.2.2.2.2.1 q.2.2.2.2.2) (nI cell, nI st, nI n, nI w, nI j, g) = some (Int64.toInt32 (l6 (lsA (vcF (tin τ K) K cell st n w) n)), g2) ∧ eqR h g2 := by
  intro q
  induction q with
  | zero =>
    intro j g hj E V
    have hj : j = 52 := by omega
    subst hj
    obtain ⟨g2, a1, a2⟩ := p_lost98 X hc hn hst hw n 0 g (by omega) E V
    refine ⟨g2, lp_inr ?_, a2⟩
    show s_Mod_lost_61 (nI cell) (nI st) (nI n) (nI w) (nI 52) g = _
    unfold s_Mod_lost_61
    rw [if_pos (show (52 : Int32) ≤ nI 52 by decide)]
    have a1 : lp (fun q : Int32 × Int32 × Int32 × Int64 × Int32 × Hp => s_Mod_lost_98 q.1 q.2.1 q.2.2.1 q.2.2.2.1 q.2.2.2.2.1 q.2.2.2.2.2) (nI st, nI n, nI w, (1 : Int64), (0 : Int32), g) = _ := a1
    rw [a1]
    rfl
  | succ q ih =>
    intro j g hj E V
    have E2 : eqV 111 g (sL g 111 j (l6 (vcF (tin τ K) K cell st 0 j))) := eqV_sL (eqV_refl _ _)
    obtain ⟨g2, a1, a2⟩ := ih (j + 1) (sL g 111 j (l6 (vcF (tin τ K) K cell st 0 j))) (by omega) (eqR_V E E2 (Or.inl rfl)) (fun i hi => by
      rw [hL_sL]
      show (if i = j then l6 (vcF (tin τ K) K cell st 0 j) else hL g 111 i) = _
      by_cases z : i = j
      · rw [if_pos z, z]
      · rw [if_neg z]; exact V i (by omega))
    refine ⟨g2, ?_, a2⟩
    rw [lp_inl (s' := (nI cell, nI st, nI n, nI w, nI (j + 1), sL g 111 j (l6 (vcF (tin τ K) K cell st 0 j)))) ?_]
    · exact a1
    · show s_Mod_lost_61 (nI cell) (nI st) (nI n) (nI w) (nI j) g = _
      unfold s_Mod_lost_61 s_Mod_lost_85
      rw [if_neg (by rw [show (52 : Int32) = nI 52 from rfl, nI_leI (by decide) (by omega)]; omega), ib_nI (by omega) (by decide), ib_nI (by omega) (by decide), show ix (nI j) = j from nI_clamp (by omega), nI_1]
      have es : vcF (tin τ K) K cell st 0 j = if j = cell then 1 else 0 := rfl
      rw [es]
      by_cases z : j = cell
      · rw [if_pos (by rw [z]), if_pos z]; rfl
      · rw [if_neg (by rw [nI_eq (by omega) (by omega)]; exact z), if_neg z]; rfl
theorem R_lost {τ : Nat → TF} {K : Nat → Int32} {n : Nat} {h : Hp} (x1 x2 x3 x4 : Int32) (X : RX τ K h) (rc : RC (tin τ K) K n h) : ∃ h2, s_Mod_lost x1 x2 x3 x4 h = some (aLost x1 x2 x3 x4 (tin τ K) K, h2) ∧ RE (tin τ K) K n h h2 := by
  unfold s_Mod_lost s_Mod_lost_52 aLost
  rw [p_isCellR, Option.bind_some]
  by_cases h1 : wi x1 0 49 = 0
  · rw [if_pos h1, if_pos h1]; exact ⟨h, rfl, RE_refl rc⟩
  rw [if_neg h1, if_neg h1, p_isStepR, Option.bind_some]
  by_cases h2 : wi x2 0 143 = 0
  · rw [if_pos h2, if_pos h2]; exact ⟨h, rfl, RE_refl rc⟩
  rw [if_neg h2, if_neg h2, p_lies, Option.bind_some]
  by_cases h3 : wi x3 0 6 = 0
  · rw [if_pos h3, if_pos h3]; exact ⟨h, rfl, RE_refl rc⟩
  rw [if_neg h3, if_neg h3, p_lies, Option.bind_some]
  by_cases h4 : wi x4 0 51 = 0
  · rw [if_pos h4, if_pos h4]; exact ⟨h, rfl, RE_refl rc⟩
  rw [if_neg h4, if_neg h4]
  obtain ⟨c, hc, rfl⟩ := wi_nat (b := 49) (by decide) (wi_n0 h1)
  obtain ⟨s, hs, rfl⟩ := wi_nat (b := 143) (by decide) (wi_n0 h2)
  obtain ⟨m, hm, rfl⟩ := wi_nat (b := 6) (by decide) (wi_n0 h3)
  obtain ⟨w, hw, rfl⟩ := wi_nat (b := 51) (by decide) (wi_n0 h4)
  rw [nI_add, show ix (nI c) = c from nI_clamp (by omega), show ix (nI s) = s from nI_clamp (by omega), show ix (nI m) = m from nI_clamp (by omega), show ix (nI w) = w from nI_clamp (by omega)]
  by_cases h5 : 144 ≤ s + m
  · rw [if_pos (by rw [show (144 : Int32) = nI 144 from rfl, nI_leI (by decide) (by omega)]; exact h5), if_pos h5]; exact ⟨h, rfl, RE_refl rc⟩
  rw [if_neg (by rw [show (144 : Int32) = nI 144 from rfl, nI_leI (by decide) (by omega)]; exact h5), if_neg h5, p_kindR X (by omega), Option.bind_some]
  by_cases h6 : K (41 + c) = 0
  · rw [if_pos h6, if_pos h6]; exact ⟨h, rfl, RE_refl rc⟩
  rw [if_neg h6, if_neg h6]
  obtain ⟨g, b1, b2, b3, b4, b5, b6⟩ := p_looks X rc
  obtain ⟨g2, a1, a2⟩ := p_lost61 (cell := c) (st := s) (n := m) (w := w) ⟨b4, b6⟩ (by omega) hm (by omega) (by omega) 52 0 g (by decide) ⟨rfl, rfl, fun _ _ _ => rfl⟩ (fun i hi => absurd hi (by omega))
  have e : hI g2 = hI g := a2.1
  rw [b1, Option.bind_some]
  refine ⟨g2, a1, eqO_trans b2 ⟨a2.2.1, fun j hj => ⟨by rw [e], a2.2.2 j (by have := sRf_of hj; omega) (by have := sRf_of hj; omega)⟩⟩, m84_trans b3 (fun k _ => by rw [e]), RC_k b5 (by rw [e]) (by rw [e]) (by rw [e]) (by rw [e])⟩
theorem QX_all {S : Nat → Bool} {τ : Nat → TF} {K : Nat → Int32} {h g : Hp} (X : QX τ K h) (E : eqO S h g) (hi : hI g = hI h) (h56 : S 56 = false) : QX τ K g := by
  obtain ⟨⟨st, rg, rw0, cc⟩, lw⟩ := X
  have hr := hR_of E.1
  refine ⟨⟨fun j hj => by rw [hi]; exact st j hj, rg, RW_eq E.1 rw0, CF_eq (by rw [hi]) (by rw [hi]) (by rw [hi]) (by rw [hi]) (by rw [hi]) (by rw [hi]) (by rw [hi]) (by rw [hi]) (E.2 56 h56).2 (by rw [hr]) (by rw [hr]) (fun r _ => by rw [hi]) (fun r _ => by rw [hi]) cc.1, C69_eq (by rw [hi]) (by rw [hi]) (by rw [hi]) rfl rfl cc.2.1, C74_eq (by rw [hi]) (by rw [hi]) rfl cc.2.2⟩, ?_⟩
  exact LW_Fr (S := fun _ => true) ⟨fun j _ hs => (by cases hs), fun j _ _ _ => by rw [hr], fun r _ _ => ⟨kd_of E.1 r, by rw [hr], fun _ => by rw [hi]⟩, by rw [hN_of E.1]; exact Nat.le_refl _⟩ (by decide) lw rfl (fun _ _ => rfl)
theorem p_chance {T : TF} {K : Nat → Int32} {h : Hp} {st n w cell : Nat} (stt : StP K h 1) (rg : Rg K) (hrow : ∀ i, i < 1440 → hI h 57 i = td0 T (mk pF K) i) (hc : cell < 50) (hn : n ≤ 6) (hst : st + n < 144) (hw : w < 52) : ∃ g2, s_Drift_chance (nI cell) (nI st) (nI n) (nI w) h = some (Int64.toInt32 (l6 (lsA (vcF T K cell st n w) n)), g2) ∧ eqD 81 82 h g2 := by
  have n81 : nd h 81 1 52 := nd_of (by decide) rfl
  have n82 : nd h 82 1 52 := nd_of (by decide) rfl
  have E1 : eqV 81 h (sL (wL h 81 (fun j => if j < 52 then 0 else hL h 81 j)) 81 cell 1) := eqV_sL ⟨rfl, rfl, fun j hj => hL_wL_ne hj⟩
  have V : VA (sL (wL h 81 (fun j => if j < 52 then 0 else hL h 81 j)) 81 cell 1) 81 (vcF T K cell st 0) := by
    intro j hj
    rw [hL_sL]
    show (if j = cell then (1 : Int64) else hL (wL h 81 (fun j => if j < 52 then 0 else hL h 81 j)) 81 j) = l6 (if j = cell then 1 else 0)
    by_cases z : j = cell
    · rw [if_pos z, if_pos z]; rfl
    · rw [if_neg z, if_neg z, hL_wL, if_pos hj]; rfl
  obtain ⟨g2, a1, a2⟩ := p_chance29 (T := T) (w := w) stt rg hrow hc hn hst hw n 0 81 82 _ (by omega) (by decide) n81 n82 ⟨E1.1, E1.2.1, fun j h1 _ => E1.2.2 j h1⟩ V
  refine ⟨g2, ?_, a2⟩
  unfold s_Drift_chance
  rw [p_fillL n81 (by decide), Option.bind_some, ib_nI (by omega) (by decide), show ix (nI cell) = cell from nI_clamp (by omega)]
  exact a1
theorem C_lost {τ : Nat → TF} {K : Nat → Int32} {h : Hp} (x1 x2 x3 x4 : Int32) (X : QX τ K h) : ∃ h1, s_Race_lost x1 x2 x3 x4 h = some (aLost x1 x2 x3 x4 (tin τ K) K, h1) ∧ CQ (tin τ K) K h h1 := by
  unfold s_Race_lost s_Race_lost_56 aLost
  rw [p_isCellC, Option.bind_some]
  by_cases h1 : wi x1 0 49 = 0
  · rw [if_pos h1, if_pos h1]; exact ⟨h, rfl, QX_CQ X (eqO_refl _ _) X⟩
  rw [if_neg h1, if_neg h1, p_isStepC, Option.bind_some]
  by_cases h2 : wi x2 0 143 = 0
  · rw [if_pos h2, if_pos h2]; exact ⟨h, rfl, QX_CQ X (eqO_refl _ _) X⟩
  rw [if_neg h2, if_neg h2, p_within, Option.bind_some]
  by_cases h3 : wi x3 0 6 = 0
  · rw [if_pos h3, if_pos h3]; exact ⟨h, rfl, QX_CQ X (eqO_refl _ _) X⟩
  rw [if_neg h3, if_neg h3]
  obtain ⟨c, hc, rfl⟩ := wi_nat (b := 49) (by decide) (wi_n0 h1)
  obtain ⟨s, hs, rfl⟩ := wi_nat (b := 143) (by decide) (wi_n0 h2)
  obtain ⟨m, hm, rfl⟩ := wi_nat (b := 6) (by decide) (wi_n0 h3)
  rw [nI_add, p_isStepC, Option.bind_some, show ix (nI c) = c from nI_clamp (by omega), show ix (nI s) = s from nI_clamp (by omega), show ix (nI m) = m from nI_clamp (by omega)]
  have hstep : wi (nI (s + m)) 0 143 = if 144 ≤ s + m then 0 else 1 := by
    unfold wi
    rw [if_neg (nI_pos (by omega))]
    by_cases z : 144 ≤ s + m
    · rw [if_pos (by rw [show (143 : Int32) = nI 143 from rfl, nI_ltI (by decide) (by omega)]; omega), if_pos z]
    · rw [if_neg (by rw [show (143 : Int32) = nI 143 from rfl, nI_ltI (by decide) (by omega)]; omega), if_neg z]
  rw [hstep]
  by_cases h5 : 144 ≤ s + m
  · rw [if_pos h5, if_pos rfl, if_pos h5]
    refine ⟨h, ?_, QX_CQ X (eqO_refl _ _) X⟩
    split <;> rfl
  rw [if_neg h5, if_neg (show ¬ (1 : Int32) = 0 by decide), p_within, Option.bind_some]
  by_cases h4 : wi x4 0 51 = 0
  · rw [if_pos h4, if_pos h4]; exact ⟨h, rfl, QX_CQ X (eqO_refl _ _) X⟩
  rw [if_neg h4, if_neg h4, if_neg h5]
  obtain ⟨w, hw, rfl⟩ := wi_nat (b := 51) (by decide) (wi_n0 h4)
  rw [ib_nI (by omega) (by decide), p_kindC X.1.1 (by omega), show ix (nI w) = w from nI_clamp (by omega)]
  by_cases h6 : K (41 + c) = 0
  · rw [if_pos h6, if_pos h6]; exact ⟨h, rfl, QX_CQ X (eqO_refl _ _) X⟩
  rw [if_neg h6, if_neg h6]
  obtain ⟨g, a1, a2, a3⟩ := p_todayX X
  obtain ⟨g2, b1, b2⟩ := p_chance (cell := c) (st := s) (n := m) (w := w) a3.1.1.1 a3.1.1.2.1 a3.2.2 (by omega) hm (by omega) (by omega)
  have e : hI g2 = hI g := b2.1
  have E : eqO sDf g g2 := ⟨b2.2.1, fun j hj => by
    have : j ≠ 81 ∧ j ≠ 82 := by
      unfold sDf at hj
      simp only [Bool.or_eq_false_iff, decide_eq_false_iff_not] at hj
      exact hj
    exact ⟨by rw [e], b2.2.2 j this.1 this.2⟩⟩
  rw [a1, Option.bind_some, b1, Option.bind_some]
  refine ⟨g2, rfl, QX_CQ X (eqO_trans a2 (eqO_mono E (fun j hj => ?_))) (QX_all a3.1 E e (by decide))⟩
  unfold sC at hj
  simp only [Bool.and_eq_false_iff, decide_eq_false_iff_not] at hj
  exact sDf_no (by omega) (by omega)
theorem Q_lost (n : Nat) (x1 x2 x3 x4 : Int32) (h : Hp) (_ : n < 512) (hi : Inv n h) : ∃ h2, q_lost x1 x2 x3 x4 h = some h2 ∧ Inv (n + 1) h2 := ask hi (aLost x1 x2 x3 x4) (fun _ _ X => C_lost x1 x2 x3 x4 X) (fun _ _ _ _ X rc => R_lost x1 x2 x3 x4 X rc)
