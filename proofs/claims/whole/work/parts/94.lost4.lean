/-! lost: the reference's -/
theorem mnS_0 {s : Nat} (h : s < 144) : mnS s 0 = 10 * s := by
  unfold mnS
  rw [Int32.add_zero]
  unfold clp
  rw [if_neg (nI_pos (by omega)), if_neg (by rw [show (1439 : Int32) = nI 1439 from rfl, nI_ltI (by decide) (by omega)]; omega)]
  exact nI_clamp (by omega)
theorem to1 {c : Nat} (hc : c < 50) (h : Hp) : s_Mod_toOf (nI c) 1 h = some (oI (toC c 1)) ∧ s_Mod_toOf (nI c) 2 h = some (oI (toC c 2)) := by
  have er : z_rem (nI c) 10 = nI (c % 10) := nI_rem (b := 10) (by omega) (by decide)
  have c1 : s_Mod_toOf (nI c) 1 h = if z_rem (nI c) 10 = 9 then some (-1) else some (nI c + 1) := rfl
  have c2 : s_Mod_toOf (nI c) 2 h = if z_rem (nI c) 10 = 0 then some (-1) else some (nI c - 1) := rfl
  refine ⟨?_, ?_⟩
  · rw [c1, er, toC_1]
    by_cases z : c % 10 = 9
    · rw [if_pos (by rw [z]; rfl), if_pos z]; rfl
    · rw [if_neg (by rw [show (9 : Int32) = nI 9 from rfl, nI_eq (by omega) (by decide)]; exact z), if_neg z, nI_1]; rfl
  · rw [c2, er, toC_2]
    by_cases z : c % 10 = 0
    · rw [if_pos (by rw [z]; rfl), if_pos z]; rfl
    · rw [if_neg (nI_ne0 (by omega) (by omega)), if_neg z, show (1 : Int32) = nI 1 from rfl, nI_sub (by omega)]; rfl
def gz (K : Nat → Int32) (t : Nat) : Nat := if t < 50 then ldR K t else t
theorem gz_lt {K : Nat → Int32} {t : Nat} (h : t < 52) : gz K t < 52 := by
  unfold gz ldR
  split
  · split <;> omega
  · exact h
theorem RX_V {τ : Nat → TF} {K : Nat → Int32} {r : Nat} {h g : Hp} (X : RX τ K h) (E : eqV r h g) : RX τ K g := RX_eq X (by rw [eqV_hI E])
theorem p_goes {τ : Nat → TF} {K : Nat → Int32} {h : Hp} (X : RX τ K h) {t x : Nat} {g : Nat → Nat} (ht : t < 52) (V : VA h 112 g) : ∃ h2, s_Mod_goes (nI t) (l6 x) h = some h2 ∧ eqV 112 h h2 ∧ VA h2 112 (ad g (gz K t) x) := by
  have e28 : ∀ i, i < 52 → s_Mod_goes_28 (l6 x) (nI i) h = some (sL h 112 i (hL h 112 i + l6 x)) := fun i hi => by
    unfold s_Mod_goes_28
    rw [ib_nI hi (by decide), ib_nI hi (by decide), show ix (nI i) = i from nI_clamp (by omega)]
  refine ⟨sL h 112 (gz K t) (hL h 112 (gz K t) + l6 x), ?_, eqV_sL (eqV_refl _ _), VA_ad V (gz_lt ht)⟩
  unfold s_Mod_goes s_Mod_goes_27
  rw [if_neg (nI_pos (by omega))]
  unfold gz ldR
  by_cases z : t < 50
  · rw [if_neg (by rw [show (50 : Int32) = nI 50 from rfl, nI_leI (by decide) (by omega)]; omega), p_kindR X z, Option.bind_some, if_pos z]
    by_cases y : K (41 + t) = 0
    · rw [if_pos y, if_pos y]; exact e28 51 (by decide)
    · rw [if_neg y, if_neg y]; exact e28 t ht
  · rw [if_pos (by rw [show (50 : Int32) = nI 50 from rfl, nI_leI (by decide) (by omega)]; omega), if_neg z]; exact e28 t ht
theorem gz_o {K : Nat → Int32} {c mv d : Nat} (hc : c < 50) (hd : 50 ≤ d) : gz K ((toC c mv).getD d) = ldO K (toC c mv) d := by
  cases h : toC c mv with
  | none => exact if_neg (by show ¬ d < 50; omega)
  | some q =>
    have := toC_lt hc h
    exact if_pos (by show q < 50; omega)
theorem getD_lt {c mv d : Nat} (hc : c < 50) (hd : d < 52) : (toC c mv).getD d < 52 := by
  cases h : toC c mv with
  | none => exact hd
  | some q =>
    have := toC_lt hc h
    show q < 52
    omega
theorem p_lost253 {τ : Nat → TF} {K : Nat → Int32} {h : Hp} (X : RX τ K h) {c x p a : Nat} {g : Nat → Nat} {v2 v3 v4 v7 : Int32} {v5 : Int64} (hc : c < 50) (hp : p ≤ 100) (ha : a < 52) (hx : hL h 111 c = l6 x) (V : VA h 112 g) : ∃ h2, s_Mod_lost_253 v2 v3 v4 v5 v7 (nI c) (nI p) (nI a) h = some (.inl (v2, v3, v4, v5, v7, nI (c + 1), h2)) ∧ eqV 112 h h2 ∧ VA h2 112 (ad (ad (ad g (gz K a) (x * 2 * p)) (ldO K (toC c 3) 51) (x * (100 - p))) (ldO K (toC c 4) 51) (x * (100 - p))) := by
  have w1 : (l6 x * 2) * (nI p).toInt64 = l6 (x * 2 * p) := by rw [show (2 : Int64) = l6 2 from rfl, l6_mul, l6_32 (by omega), l6_mul]
  have w2 : l6 x * (100 - (nI p).toInt64) = l6 (x * (100 - p)) := by rw [show (100 : Int64) = l6 100 from rfl, l6_32 (by omega), l6_sub hp, l6_mul]
  obtain ⟨h1, a1, a2, a3⟩ := p_goes (x := x * 2 * p) X ha V
  obtain ⟨h2, b1, b2, b3⟩ := p_goes (x := x * (100 - p)) (RX_V X a2) (getD_lt (c := c) (mv := 3) (d := 51) hc (by decide)) a3
  obtain ⟨h3, c1, c2, c3⟩ := p_goes (x := x * (100 - p)) (RX_V (RX_V X a2) b2) (getD_lt (c := c) (mv := 4) (d := 51) hc (by decide)) b3
  rw [gz_o hc (by decide)] at b3 c3
  rw [gz_o hc (by decide)] at c3
  refine ⟨h3, ?_, eqV_trans a2 (eqV_trans b2 c2), c3⟩
  have e328 : s_Mod_lost_328 v2 v3 v4 v5 v7 (nI c) (nI p) (nI ((toC c 4).getD 51)) h2 = some (.inl (v2, v3, v4, v5, v7, nI (c + 1), h3)) := by
    unfold s_Mod_lost_328 s_Mod_lost_346
    rw [ib_nI (by omega) (by decide), show ix (nI c) = c from nI_clamp (by omega), b2.2.2 111 (by decide), a2.2.2 111 (by decide), hx, w2, c1, Option.bind_some, nI_1]
  have e292 : s_Mod_lost_292 v2 v3 v4 v5 v7 (nI c) (nI p) (nI ((toC c 3).getD 51)) h1 = some (.inl (v2, v3, v4, v5, v7, nI (c + 1), h3)) := by
    unfold s_Mod_lost_292
    rw [ib_nI (by omega) (by decide), show ix (nI c) = c from nI_clamp (by omega), a2.2.2 111 (by decide), hx, w2, b1, Option.bind_some]
    rw [toC_4] at e328
    by_cases z : c < 10
    · rw [if_pos z] at e328
      rw [if_pos (by rw [show (10 : Int32) = nI 10 from rfl, nI_ltI (by omega) (by decide)]; exact z)]
      exact e328
    · rw [if_neg z] at e328
      rw [if_neg (by rw [show (10 : Int32) = nI 10 from rfl, nI_ltI (by omega) (by decide)]; exact z), show (10 : Int32) = nI 10 from rfl, nI_sub (by omega)]
      exact e328
  unfold s_Mod_lost_253
  rw [ib_nI (by omega) (by decide), show ix (nI c) = c from nI_clamp (by omega), hx, w1, a1, Option.bind_some, show (10 : Int32) = nI 10 from rfl, nI_add]
  rw [toC_3] at e292
  by_cases z : c + 10 < 50
  · rw [if_pos z] at e292
    rw [if_neg (by rw [show (50 : Int32) = nI 50 from rfl, nI_leI (by decide) (by omega)]; omega)]
    exact e292
  · rw [if_neg z] at e292
    rw [if_pos (by rw [show (50 : Int32) = nI 50 from rfl, nI_leI (by decide) (by omega)]; omega)]
    exact e292
def eqR (h g : Hp) : Prop := g.1 = h.1 ∧ g.2.2 = h.2.2 ∧ ∀ j, j ≠ 111 → j ≠ 112 → hL g j = hL h j
theorem eqR_V {r : Nat} {h g g2 : Hp} (E : eqR h g) (V : eqV r g g2) (hr : r = 111 ∨ r = 112) : eqR h g2 := ⟨V.1.trans E.1, V.2.1.trans E.2.1, fun j h1 h2 => (V.2.2 j (by omega)).trans (E.2.2 j h1 h2)⟩
theorem LX_R {τ : Nat → TF} {K : Nat → Int32} {h g : Hp} (X : LX τ K h) (E : eqR h g) : LX τ K g := by
  have e : hI g = hI h := E.1
  refine ⟨RX_eq X.1 (by rw [e]), ?_, ?_⟩
  · rw [e]; exact X.2.1
  · rw [e]; exact X.2.2
theorem p_lost152 {τ : Nat → TF} {K : Nat → Int32} {h : Hp} (X : LX τ K h) {st k : Nat} {v : Nat → Nat} {v3 v4 : Int32} {v5 : Int64} (hk : st + k < 144) (hb : ∀ j, j < 52 → v j < 9223372036854775808) :
    ∀ (q c : Nat) (g : Hp), c + q = 50 → eqR h g → VA g 111 v → VA g 112 (spF (tin τ K) K (10 * (st + k)) v c) → ∃ g2, lp (fun q : Int32 × Int32 × Int32 × Int64 × Int32 × Int32 × Hp => s_Mod_lost_152 q.1 q.2.1 q.2.2.1 q.2.2.2.1 q.2.2.2.2.1 q.2.2.2.2.2.1 q.2.2.2.2.2.2) (nI st, v3, v4, v5, nI k, nI c, g) = some (.inl (nI st, v3, v4, v5 * 200, nI (k + 1), g2)) ∧ eqR h g2 ∧ VA g2 111 (spF (tin τ K) K (10 * (st + k)) v 50) := by
  have cp : ∀ (q j : Nat) (g : Hp), j + q = 52 → eqR h g → VA g 112 (spF (tin τ K) K (10 * (st + k)) v 50) → (∀ i, i < j → hL g 111 i = l6 (spF (tin τ K) K (10 * (st + k)) v 50 i)) → ∃ g2, lp (fun q : Int32 × Int32 × Int32 × Int64 × Int32 × Int32 × Hp => s_Mod_lost_355 q.1 q.2.1 q.2.2.1 q.2.2.2.1 q.2.2.2.2.1 q.2.2.2.2.2.1 q.2.2.2.2.2.2) (nI st, v3, v4, v5, nI k, nI j, g) = some (.inl (nI st, v3, v4, v5 * 200, nI (k + 1), g2)) ∧ eqR h g2 ∧ VA g2 111 (spF (tin τ K) K (10 * (st + k)) v 50) := by
    intro q
    induction q with
    | zero =>
      intro j g hj E V1 V2
      have hj : j = 52 := by omega
      subst hj
      refine ⟨g, lp_inr ?_, E, V2⟩
      show s_Mod_lost_355 (nI st) v3 v4 v5 (nI k) (nI 52) g = _
      unfold s_Mod_lost_355
      rw [if_pos (show (52 : Int32) ≤ nI 52 by decide), nI_1]
    | succ q ih =>
      intro j g hj E V1 V2
      have E2 : eqV 111 g (sL g 111 j (hL g 112 j)) := eqV_sL (eqV_refl _ _)
      obtain ⟨g2, a1, a2⟩ := ih (j + 1) (sL g 111 j (hL g 112 j)) (by omega) (eqR_V E E2 (Or.inl rfl)) (fun i hi => by rw [hL_sL_ne (by decide)]; exact V1 i hi) (fun i hi => by
        rw [hL_sL]
        show (if i = j then hL g 112 j else hL g 111 i) = _
        by_cases z : i = j
        · rw [if_pos z, z]; exact V1 j (by omega)
        · rw [if_neg z]; exact V2 i (by omega))
      refine ⟨g2, ?_, a2⟩
      rw [lp_inl (s' := (nI st, v3, v4, v5, nI k, nI (j + 1), sL g 111 j (hL g 112 j))) ?_]
      · exact a1
      · show s_Mod_lost_355 (nI st) v3 v4 v5 (nI k) (nI j) g = _
        unfold s_Mod_lost_355
        rw [if_neg (by rw [show (52 : Int32) = nI 52 from rfl, nI_leI (by decide) (by omega)]; omega), ib_nI (by omega) (by decide), ib_nI (by omega) (by decide), show ix (nI j) = j from nI_clamp (by omega), nI_1]
  intro q
  induction q with
  | zero =>
    intro c g hc E V1 V2
    have hc : c = 50 := by omega
    subst hc
    obtain ⟨g2, a1, a2⟩ := cp 52 0 g (by decide) E V2 (fun i hi => absurd hi (by omega))
    refine ⟨g2, lp_inr ?_, a2⟩
    show s_Mod_lost_152 (nI st) v3 v4 v5 (nI k) (nI 50) g = _
    unfold s_Mod_lost_152
    rw [if_pos (show (50 : Int32) ≤ nI 50 by decide)]
    have a1 : lp (fun q : Int32 × Int32 × Int32 × Int64 × Int32 × Int32 × Hp => s_Mod_lost_355 q.1 q.2.1 q.2.2.1 q.2.2.2.1 q.2.2.2.2.1 q.2.2.2.2.2.1 q.2.2.2.2.2.2) (nI st, v3, v4, v5, nI k, (0 : Int32), g) = _ := a1
    rw [a1]
    rfl
  | succ q ih =>
    intro c g hc E V1 V2
    have Xg := LX_R X E
    have vc := V1 c (by omega)
    by_cases z : v c = 0
    · have e : spF (tin τ K) K (10 * (st + k)) v (c + 1) = spF (tin τ K) K (10 * (st + k)) v c := by rw [spF, if_pos z]
      obtain ⟨g2, a1, a2⟩ := ih (c + 1) g (by omega) E V1 (by rw [e]; exact V2)
      refine ⟨g2, ?_, a2⟩
      rw [lp_inl (s' := (nI st, v3, v4, v5, nI k, nI (c + 1), g)) ?_]
      · exact a1
      · show s_Mod_lost_152 (nI st) v3 v4 v5 (nI k) (nI c) g = _
        unfold s_Mod_lost_152 s_Mod_lost_346
        rw [if_neg (by rw [show (50 : Int32) = nI 50 from rfl, nI_leI (by decide) (by omega)]; omega), ib_nI (by omega) (by decide), show ix (nI c) = c from nI_clamp (by omega), vc, z, if_pos (show lg_cmp (l6 0) 0 = 0 from (lg_cmp_eq _ _).mpr rfl), nI_1]
    · have e : spF (tin τ K) K (10 * (st + k)) v (c + 1) = sp1 K (fa (mk pF K) (td0 (tin τ K) (mk pF K)) (K (41 + c)) (10 * (st + k))) c (v c) (spF (tin τ K) K (10 * (st + k)) v c) := by rw [spF, if_neg z]
      have hfb := fa_b (T := tin τ K) X.1.2.1 (K (41 + c)) (10 * (st + k))
      have hcr := cr_C hfb
      have hp := cr_le (fa (mk pF K) (td0 (tin τ K) (mk pF K)) (K (41 + c)) (10 * (st + k)))
      have mv12 : (if fa (mk pF K) (td0 (tin τ K) (mk pF K)) (K (41 + c)) (10 * (st + k)) ≤ 0 then (2 : Nat) else 1) = 2 ∨ (if fa (mk pF K) (td0 (tin τ K) (mk pF K)) (K (41 + c)) (10 * (st + k)) ≤ 0 then (2 : Nat) else 1) = 1 := by
        split
        · exact Or.inl rfl
        · exact Or.inr rfl
      obtain ⟨g1, b1, b2, b3⟩ := p_lost253 (x := v c) (p := cr (fa (mk pF K) (td0 (tin τ K) (mk pF K)) (K (41 + c)) (10 * (st + k)))) (a := (toC c (if fa (mk pF K) (td0 (tin τ K) (mk pF K)) (K (41 + c)) (10 * (st + k)) ≤ 0 then 2 else 1)).getD 50) (v2 := nI st) (v3 := v3) (v4 := v4) (v5 := v5) (v7 := nI k) Xg.1 (show c < 50 by omega) hp (getD_lt (by omega) (by decide)) vc V2
      rw [gz_o (by omega) (by decide)] at b3
      obtain ⟨g2, a1, a2⟩ := ih (c + 1) g1 (by omega) (eqR_V E b2 (Or.inr rfl)) (fun j hj => by rw [b2.2.2 111 (by decide)]; exact V1 j hj) (by rw [e]; exact b3)
      refine ⟨g2, ?_, a2⟩
      rw [lp_inl (s' := (nI st, v3, v4, v5, nI k, nI (c + 1), g1)) ?_]
      · exact a1
      · show s_Mod_lost_152 (nI st) v3 v4 v5 (nI k) (nI c) g = _
        have e234 : ∀ mv : Nat, (mv = 1 ∨ mv = 2) → mv = (if fa (mk pF K) (td0 (tin τ K) (mk pF K)) (K (41 + c)) (10 * (st + k)) ≤ 0 then 2 else 1) → s_Mod_lost_234 (nI st) v3 v4 v5 (nI k) (nI c) (nI (cr (fa (mk pF K) (td0 (tin τ K) (mk pF K)) (K (41 + c)) (10 * (st + k))))) (nI mv) (nI c) g = some (.inl (nI st, v3, v4, v5, nI k, nI (c + 1), g1)) := by
          intro mv hmv emv
          rw [← emv] at b1
          unfold s_Mod_lost_234
          have et : s_Mod_toOf (nI c) (nI mv) g = some (oI (toC c mv)) := by
            rcases hmv with rfl | rfl
            · exact (to1 (by omega) g).1
            · exact (to1 (by omega) g).2
          rw [et, Option.bind_some]
          cases ht : toC c mv with
          | none =>
            rw [ht] at b1
            show (if (-1 : Int32) = -1 then _ else _) = _
            rw [if_pos rfl]
            exact b1
          | some t =>
            have tl := toC_lt (show c < 50 by omega) ht
            rw [ht] at b1
            show (if nI t = -1 then _ else _) = _
            rw [if_neg (fun y => by
              have : nI t < 0 := by rw [y]; decide
              exact nI_pos (by omega) this)]
            exact b1
        have e220 : s_Mod_lost_220 (nI st) v3 v4 v5 (nI k) (nI c) (fa (mk pF K) (td0 (tin τ K) (mk pF K)) (K (41 + c)) (10 * (st + k))) (nI (cr (fa (mk pF K) (td0 (tin τ K) (mk pF K)) (K (41 + c)) (10 * (st + k))))) g = some (.inl (nI st, v3, v4, v5, nI k, nI (c + 1), g1)) := by
          unfold s_Mod_lost_220
          by_cases y : fa (mk pF K) (td0 (tin τ K) (mk pF K)) (K (41 + c)) (10 * (st + k)) ≤ 0
          · rw [if_pos y]; exact e234 2 (Or.inr rfl) (by rw [if_pos y])
          · rw [if_neg y]; exact e234 1 (Or.inl rfl) (by rw [if_neg y])
        unfold s_Mod_lost_152
        rw [if_neg (by rw [show (50 : Int32) = nI 50 from rfl, nI_leI (by decide) (by omega)]; omega), ib_nI (by omega) (by decide), show ix (nI c) = c from nI_clamp (by omega), vc, if_neg (show ¬ lg_cmp (l6 (v c)) 0 = 0 from fun y => z ((l6_eq (b := 0) (hb c (by omega)) (by decide)).mp (show l6 (v c) = l6 0 from (lg_cmp_eq _ _).mp y))), p_kindR Xg.1 (by omega), Option.bind_some, nI_add, p_minuteOf (by omega) (by decide), Option.bind_some, mnS_0 hk, p_flowAt Xg.1 Xg.2.1 (by omega), Option.bind_some, p_size, Option.bind_some, Option.bind_some]
        have hz := hcr.1
        unfold z_min at hz
        by_cases y : szI (fa (mk pF K) (td0 (tin τ K) (mk pF K)) (K (41 + c)) (10 * (st + k))) / 10 < 100
        · rw [if_pos y] at hz
          rw [if_pos (Int32.le_of_lt y), hz]
          exact e220
        · rw [if_neg y] at hz
          by_cases x : szI (fa (mk pF K) (td0 (tin τ K) (mk pF K)) (K (41 + c)) (10 * (st + k))) / 10 ≤ 100
          · rw [if_pos x, Int32.le_antisymm x (Int32.not_lt.mp y), hz]
            exact e220
          · rw [if_neg x, hz]
            exact e220
