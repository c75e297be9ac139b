/-! gain, on both sides -/
theorem p_nearest (v a b : Int32) (h : Hp) : s_Race_nearest v a b h = some (clp v a b) := by
  unfold s_Race_nearest s_Race_nearest_19 clp
  by_cases h1 : v < a
  · rw [if_neg (Int32.not_le.mpr h1), if_pos h1]
  · rw [if_pos (Int32.not_lt.mp h1), if_neg h1]
    by_cases h2 : b < v
    · rw [if_neg (Int32.not_le.mpr h2), if_pos h2]
    · rw [if_pos (Int32.not_lt.mp h2), if_neg h2]
theorem l2i (x : Int32) : Int64.toInt32 x.toInt64 = x := by
  apply Int32.toInt_inj.mp
  have h1 := x.le_toInt
  have h2 := x.toInt_lt
  rw [Int64.toInt_toInt32, Int32.toInt_toInt64, Int.bmod_eq_of_le (by omega) (by omega)]
theorem le64 (x y : Int32) : x.toInt64 ≤ y.toInt64 ↔ x ≤ y := by
  rw [Int64.le_iff_toInt_le, Int32.toInt_toInt64, Int32.toInt_toInt64, Int32.le_iff_toInt_le]
theorem lt64 (x y : Int32) : x.toInt64 < y.toInt64 ↔ x < y := by
  rw [Int64.lt_iff_toInt_lt, Int32.toInt_toInt64, Int32.toInt_toInt64, Int32.lt_iff_toInt_lt]
theorem p_near (x a b : Int32) (h : Hp) : s_Mod_near x.toInt64 a b h = some (clp x a b) := by
  unfold s_Mod_near s_Mod_near_24 clp
  by_cases h1 : x < a
  · rw [if_neg (by rw [lg_cmp_ge, le64]; exact Int32.not_le.mpr h1), if_pos h1]
  · rw [if_pos (by rw [lg_cmp_ge, le64]; exact Int32.not_lt.mp h1), if_neg h1]
    by_cases h2 : b < x
    · rw [if_neg (by rw [lg_cmp_le, le64]; exact Int32.not_le.mpr h2), if_pos h2]
    · rw [if_pos (by rw [lg_cmp_le, le64]; exact Int32.not_lt.mp h2), if_neg h2, l2i]
theorem add64 {x y : Int32} {A B : Nat} (hx : na x ≤ A) (hy : na y ≤ B) (h : A + B < 2147483648) : x.toInt64 + y.toInt64 = (x + y).toInt64 := by
  apply Int64.toInt_inj.mp
  rw [lg_i2l_add, Int32.toInt_toInt64, (na_add hx hy h).1]
theorem mul64 {x y : Int32} {A B : Nat} (hx : na x ≤ A) (hy : na y ≤ B) (h : A * B < 2147483648) : x.toInt64 * y.toInt64 = (x * y).toInt64 := by
  apply Int64.toInt_inj.mp
  rw [(nz_mul (a := x.toInt64) (b := y.toInt64) (A := A) (B := B) (by rw [nz_32]; exact hx) (by rw [nz_32]; exact hy) (by omega)).1, Int32.toInt_toInt64, Int32.toInt_toInt64, Int32.toInt_toInt64, (na_mul hx hy h).1]
theorem z_abs_eq (v : Int32) : z_abs v = szI v := by
  unfold z_abs szI
  rw [Int32.zero_sub]
theorem p_size (v : Int32) (h : Hp) : s_Mod_size v h = some (szI v) := by
  unfold s_Mod_size s_Mod_size_10 szI
  split <;> rfl
def hrs (j : Nat) (a b c d e f g : Int32) (h : Hp) : Hp := sI (sI (sI (sI (sI (sI (sI h j 0 a) j 1 b) j 2 c) j 3 d) j 4 e) j 5 f) j 6 g
theorem p_hear (a b c d e f g : Int32) (h : Hp) : s_Teller_hear a b c d e f g h = some (hrs 52 a b c d e f g h) := rfl
theorem p_asksOf (a b c d e f g : Int32) (h : Hp) : s_Mod_asksOf a b c d e f g h = some (hrs 95 a b c d e f g h) := rfl
theorem hrs_t7 (T : TF) (q j : Nat) (a b c d e f g : Int32) (h : Hp) : t7 T q (hI (hrs j a b c d e f g h) j) = T q a b c d e f g := by
  simp [t7, hrs, hI_sI']
theorem hrs_eq {S : Nat → Bool} {j : Nat} (a b c d e f g : Int32) (h : Hp) (hs : S j = true) : eqO S h (hrs j a b c d e f g h) := eqO_sI (eqO_sI (eqO_sI (eqO_sI (eqO_sI (eqO_sI (eqO_sI (eqO_refl _ _) hs) hs) hs) hs) hs) hs) hs
theorem Rg_force {K : Nat → Int32} (rg : Rg K) (h : ¬ K 190 < 0) : ∃ t, t < 6 ∧ K 190 = nI t ∧ nI t < K 189 := by
  obtain ⟨t, ht, e⟩ := nI_of h
  have h1 := (Rg_int rg (j := 190) (by decide) (show rj 190 = (-1, 5) by decide)).2
  rw [e] at h1
  refine ⟨t, ?_, e, by rw [← e]; exact rg.2.1⟩
  have := (nI_leI (b := 5) ht (by decide)).mp h1
  omega
theorem p_lawNo {K : Nat → Int32} {h : Hp} (st : StP K h 1) (hK : K 190 < 0) : s_State_lawInForce h = some none := by
  have e : hI h 1 14 = K 190 := StP_at st (by decide) (show pl 190 = (0, 14) by decide)
  unfold s_State_lawInForce s_State_lawInForce_30 s_State_lawInForce_31
  rw [e, if_pos hK]
theorem p_lawYes {K : Nat → Int32} {h : Hp} {t : Nat} (st : StP K h 1) (ht : t < 6) (hK : K 190 = nI t) (h2 : nI t < K 189) : s_State_lawInForce h = some (hR h 6 t) := by
  have e : hI h 1 14 = K 190 := StP_at st (by decide) (show pl 190 = (0, 14) by decide)
  have e2 : hI h 1 13 = K 189 := StP_at st (by decide) (show pl 189 = (0, 13) by decide)
  unfold s_State_lawInForce s_State_lawInForce_31
  rw [e, e2, hK, if_neg (nI_pos (by omega)), if_neg (Int32.not_le.mpr h2), ib_nI ht (by decide), show ix (nI t) = t from nI_clamp (by omega)]
def sGn (j : Nat) : Bool := decide (j = 51) || decide (j = 52) || decide (j = 53)
theorem p_tell {τ : Nat → TF} {K : Nat → Int32} {h : Hp} (st : StP K h 1) (rg : Rg K) (lw : LW τ K h 1) {q : Nat} (hq : q < 2) (a b c d e f g : Int32) :
    (s_State_lawInForce h = some none ∧ tin τ K q a b c d e f g = none) ∨ ∃ r h', s_State_lawInForce h = some (some r) ∧ s_Teller_tellsBy r (nI q) (hrs 52 a b c d e f g h) = some (if (tin τ K q a b c d e f g).isSome then 1 else 0, h') ∧ (∀ x, tin τ K q a b c d e f g = some x → hI h' 51 2 = x) ∧ eqO sGn h h' := by
  by_cases hK : K 190 < 0
  · refine Or.inl ⟨p_lawNo st hK, ?_⟩
    unfold tin
    rw [if_pos hK]
  · refine Or.inr ?_
    obtain ⟨t, ht, ek, h2⟩ := Rg_force rg hK
    obtain ⟨r, e1, ⟨n1, n0, aa, bb, na_, nb, r1, r2, l1, l2, m1, m2, s1, s2, ct⟩, -⟩ := lw t ht h2
    have eT : tin τ K = τ t := by
      unfold tin
      rw [if_neg hK, ek, show ix (nI t) = t from nI_clamp (by omega)]
    have E : eqO sGn h (hrs 52 a b c d e f g h) := hrs_eq a b c d e f g h (by decide)
    have na1 : 114 ≤ aa := l1
    have na2 : 114 ≤ bb := l2
    have sg : ∀ z, 114 ≤ z → sGn z = false := fun z hz => by
      unfold sGn
      rw [decide_eq_false (p := z = 51) (by omega), decide_eq_false (p := z = 52) (by omega), decide_eq_false (p := z = 53) (by omega)]
      rfl
    obtain ⟨h', z1, z2, z3⟩ := ct (hrs 52 a b c d e f g h) r aa bb (nd_eq E.1 n1) n0 (by rw [rf_of E.1]; exact r1) (by rw [rf_of E.1]; exact r2) l1 l2 (nd_eq E.1 m1) (nd_eq E.1 m2) (E.2 aa (sg aa na1)).1 (E.2 bb (sg bb na2)).1 q hq
    rw [hrs_t7] at z1 z2
    refine ⟨r, h', ?_, by rw [eT]; exact z1, by rw [eT]; exact z2, eqO_trans E (eqO_mono z3 (fun j hj => ?_))⟩
    · rw [p_lawYes st ht ek h2, e1]
    · unfold sGn at hj
      simp only [Bool.or_eq_false_iff, decide_eq_false_iff_not] at hj
      unfold sTl
      rw [decide_eq_false hj.1.1, decide_eq_false hj.2]
      rfl
theorem cnL_some {α : Type} {y : Int64} (hy : ¬ y = 0) (F : Option α) : cnL y F = F := if_neg hy
theorem mass_ne {K : Nat → Int32} (rg : Rg K) : ¬ (mk pF K 32).toInt64 = 0 := by
  intro z
  have hm := kf_mass rg
  have : (mk pF K 32).toInt64.toInt = 0 := by rw [z]; rfl
  rw [Int32.toInt_toInt64] at this
  rw [Int32.le_iff_toInt_le, this] at hm
  exact absurd hm (by decide)
theorem p_gain93 {K : Nat → Int32} {h : Hp} (st : StP K h 1) (rg : Rg K) {f tb fall : Int32} (h1 : na fall ≤ 6000) : s_Water_gain_93 f tb fall h = some (gnF (mk pF K) fall f tb, h) := by
  have t0 : hI h 4 0 = mk pF K 30 := kf_term st 0 (by decide)
  have t1 : hI h 4 1 = mk pF K 31 := kf_term st 1 (by decide)
  have t2 : hI h 4 2 = mk pF K 32 := kf_term st 2 (by decide)
  have t7_ : hI h 4 7 = mk pF K 37 := kf_term st 7 (by decide)
  have k0 : na (mk pF K 30) ≤ 50 := kf_termB rg (i := 0) (by decide) (by decide) (by decide)
  have mx : z_max 1 (mk pF K 32) = mk pF K 32 := by
    unfold z_max
    by_cases z : (1 : Int32) < mk pF K 32
    · rw [if_pos z]
    · rw [if_neg z]
      exact Int32.le_antisymm (kf_mass rg) (Int32.not_lt.mp z)
  unfold s_Water_gain_93
  simp only [lt]
  rw [ib_some _ (by decide) (by decide), ib_some _ (by decide) (by decide), ib_some _ (by decide) (by decide), ib_some _ (by decide) (by decide), show ix 1 = 1 by decide, show ix 7 = 7 by decide, show ix 2 = 2 by decide, show ix 0 = 0 by decide, t0, t1, t2, t7_, mx, z_abs_eq, cnL_some (mass_ne rg), ← mul64 h1 k0 (by decide)]
  rfl
theorem p_gainC {τ : Nat → TF} {K : Nat → Int32} {h : Hp} (st : StP K h 1) (rg : Rg K) (lw : LW τ K h 1) (ht : TdOK (mk pF K) h) {m : Nat} (hm : m < 1440) {f gl tb : Int32} (hw : na (hI h 55 (m / 60)) ≤ 40) (hg : na (1013 - gl) ≤ 100) :
    ∃ h', s_Water_gain (nI m) f gl tb h = some (gn (tin τ K) (mk pF K) (hI h 55 (m / 60)) gl tb (nI m) f, h') ∧ eqO sGn h h' := by
  have hd : nI m / 60 = nI (m / 60) := nI_div (b := 60) (by omega) (by decide)
  have hix : ix (nI (m / 60)) = m / 60 := nI_clamp (by omega)
  have fb : na (flA (mk pF K) (nI m) (hI h 55 (m / 60)) gl) ≤ 6000 := flA_b rg hm hw hg
  unfold s_Water_gain
  rw [hd, ib_nI (by omega) (by decide), hix, show (0 : Int32) = nI 0 from rfl, show (1 : Int32) = nI 1 from rfl, p_levelIn ht (kf_sea st) (by decide) hm, Option.bind_some, p_levelIn ht (kf_sea st) (by decide) hm, Option.bind_some]
  unfold gn
  rcases p_tell st rg lw (q := 0) (by decide) (flA (mk pF K) (nI m) (hI h 55 (m / 60)) gl) f (nI m) (hI h 55 (m / 60)) gl 0 tb with ⟨e1, e2⟩ | ⟨r, h', e1, e2, e3, e4⟩
  · rw [e1, Option.bind_some, nq_none, e2]
    exact ⟨h, p_gain93 st rg fb, eqO_refl _ _⟩
  · rw [e1, Option.bind_some, nq_some, p_hear, Option.bind_some]
    show ∃ h'_1, ((s_Teller_tellsBy r (nI 0) (hrs 52 (flA (mk pF K) (nI m) (hI h 55 (m / 60)) gl) f (nI m) (hI h 55 (m / 60)) gl 0 tb h)).bind _) = _ ∧ _
    rw [e2, Option.bind_some]
    have st' : StP K h' 1 := StP_eq e4 (fun j h1 h2 => by
      unfold sGn
      rw [decide_eq_false (p := j = 51) (by omega), decide_eq_false (p := j = 52) (by omega), decide_eq_false (p := j = 53) (by omega)]
      rfl) st
    cases hT : tin τ K 0 (flA (mk pF K) (nI m) (hI h 55 (m / 60)) gl) f (nI m) (hI h 55 (m / 60)) gl 0 tb with
    | none =>
      refine ⟨h', ?_, e4⟩
      show (if (0 : Int32) = nI 0 then _ else _) = _
      rw [if_pos (show (0 : Int32) = nI 0 from rfl)]
      exact p_gain93 st' rg fb
    | some x =>
      refine ⟨h', ?_, e4⟩
      show (if (1 : Int32) = nI 0 then _ else _) = _
      rw [if_neg (by decide)]
      show ((s_Race_nearest (hI h' 51 2) (-500) 500 h').bind fun u8 => some (u8, h')) = _
      rw [e3 x hT, p_nearest, Option.bind_some]
/-- the reference's -/
def RX (τ : Nat → TF) (K : Nat → Int32) (h : Hp) : Prop := hI h 86 = K ∧ Rg K ∧ ∀ t, t < 6 → nI t < K 189 → RefT K t (τ t)
theorem p_asks {τ : Nat → TF} {K : Nat → Int32} {h : Hp} (X : RX τ K h) {q : Nat} (hq : q < 2) : ∃ h', s_Mod_asks (nI (q + 1)) h = some h' ∧ hI h' 84 24 = (if (t7 (tin τ K) q (hI h 95)).isSome then 1 else 0) ∧ (∀ x, t7 (tin τ K) q (hI h 95) = some x → hL h' 84 23 = x.toInt64) ∧ eqO sAs h h' ∧ m84 asF h h' := by
  obtain ⟨e86, rg, rt⟩ := X
  by_cases hK : K 190 < 0
  · have e1 : K 190 = -1 := by
      have h1 := (Rg_int rg (j := 190) (by decide) (show rj 190 = (-1, 5) by decide)).1
      rw [Int32.le_iff_toInt_le, show (-1 : Int32).toInt = -1 by decide] at h1
      rw [Int32.lt_iff_toInt_lt, show (0 : Int32).toInt = 0 by decide] at hK
      apply Int32.toInt_inj.mp
      rw [show (-1 : Int32).toInt = -1 by decide]
      omega
    have eT : tin τ K = fun _ _ _ _ _ _ _ _ => none := by unfold tin; rw [if_pos hK]
    refine ⟨sI (sL h 84 23 0) 84 24 0, ?_, ?_, ?_, eqO_sI (eqO_sL (eqO_refl _ _) (by decide)) (by decide), ?_⟩
    · unfold s_Mod_asks
      simp only [lt]
      rw [ib_some _ (by decide) (by decide), show ix 190 = 190 by decide, hI_sI_ne (by decide), if_pos]
      show hI h 86 190 = -1
      rw [e86, e1]
    · rw [eT, hI_sI', if_pos ⟨rfl, rfl⟩]; rfl
    · rw [eT]; intro x hx; cases hx
    · exact m84_sI (h := h) (h1 := sL h 84 23 0) (fun _ _ => rfl) (Or.inr (by decide))
  · obtain ⟨t, ht, ek, h2⟩ := Rg_force rg hK
    have eT : tin τ K = τ t := by
      unfold tin
      rw [if_neg hK, ek, show ix (nI t) = t from nI_clamp (by omega)]
    rw [eT]
    exact rt t ht h2 h (by rw [e86]; exact ek) (by rw [e86]; exact ⟨rfl, fun _ _ => ⟨rfl, rfl⟩⟩) q hq
def sGR (j : Nat) : Bool := decide (j = 84) || decide (j = 95)
theorem p_tellR {τ : Nat → TF} {K : Nat → Int32} {h : Hp} (X : RX τ K h) {q : Nat} (hq : q < 2) (a b c d e f g : Int32) : ∃ h', s_Mod_asks (nI (q + 1)) (hrs 95 a b c d e f g h) = some h' ∧ hI h' 84 24 = (if (tin τ K q a b c d e f g).isSome then 1 else 0) ∧ (∀ x, tin τ K q a b c d e f g = some x → hL h' 84 23 = x.toInt64) ∧ eqO sGR h h' ∧ m84 asF h h' := by
  have E : eqO sGR h (hrs 95 a b c d e f g h) := hrs_eq a b c d e f g h (by decide)
  have X2 : RX τ K (hrs 95 a b c d e f g h) := ⟨(E.2 86 (by decide)).1.trans X.1, X.2⟩
  obtain ⟨h', z1, z2, z3, z4, z5⟩ := p_asks X2 hq
  rw [hrs_t7] at z2 z3
  refine ⟨h', z1, z2, z3, eqO_trans E (eqO_mono z4 (fun j hj => ?_)), m84_trans (fun k _ => ?_) z5⟩
  · unfold sGR at hj
    simp only [Bool.or_eq_false_iff, decide_eq_false_iff_not] at hj
    unfold sAs
    exact decide_eq_false hj.1
  · unfold hrs
    rw [hI_sI_ne (by decide), hI_sI_ne (by decide), hI_sI_ne (by decide), hI_sI_ne (by decide), hI_sI_ne (by decide), hI_sI_ne (by decide), hI_sI_ne (by decide)]
theorem RX_eq {τ : Nat → TF} {K : Nat → Int32} {h h1 : Hp} (X : RX τ K h) (e : hI h1 86 = hI h 86) : RX τ K h1 := ⟨e.trans X.1, X.2⟩
theorem p_termK {τ : Nat → TF} {K : Nat → Int32} {h : Hp} (X : RX τ K h) {k : Nat} (hk : k < 11) : s_Mod_term (nI k) h = some (mk pF K (30 + k)) := by
  rw [p_term h hk, X.1, kf_eq (by omega)]
theorem p_levelK {τ : Nat → TF} {K : Nat → Int32} {h : Hp} (X : RX τ K h) {e : Nat} (he : e ≤ 1) (m w g : Int32) : s_Mod_levelOf (nI e) m w g h = some (Lv (mk pF K) e m w g) := by
  rw [p_levelOf h he (by rw [X.1]; exact fun k hk => Rg_per0 X.2.1 e k he hk), X.1, Lv_congr (fun j hj => kf_eq (by omega)) he]
theorem p_fallR {τ : Nat → TF} {K : Nat → Int32} {h : Hp} (X : RX τ K h) {m : Nat} (hm : m < 1440) (gl : Int32) : s_Mod_fallOf (nI m) gl h = some (flA (mk pF K) (nI m) (hI h 96 (m / 60)) gl) := by
  have hd : nI m / 60 = nI (m / 60) := nI_div (b := 60) (by omega) (by decide)
  have hix : ix (nI (m / 60)) = m / 60 := nI_clamp (by omega)
  have l0 : ∀ w, s_Mod_levelOf 0 (nI m) w gl h = some (Lv (mk pF K) 0 (nI m) w gl) := fun w => p_levelK X (e := 0) (by decide) (nI m) w gl
  have l1 : ∀ w, s_Mod_levelOf 1 (nI m) w gl h = some (Lv (mk pF K) 1 (nI m) w gl) := fun w => p_levelK X (e := 1) (by decide) (nI m) w gl
  unfold s_Mod_fallOf
  rw [hd, ib_nI (by omega) (by decide), hix, l0, Option.bind_some, ib_nI (by omega) (by decide), l1, Option.bind_some]
  rfl
theorem p_t0 {τ : Nat → TF} {K : Nat → Int32} {h' : Hp} (X' : RX τ K h') : s_Mod_term 0 h' = some (mk pF K 30) := p_termK X' (k := 0) (by decide)
theorem p_t1 {τ : Nat → TF} {K : Nat → Int32} {h' : Hp} (X' : RX τ K h') : s_Mod_term 1 h' = some (mk pF K 31) := p_termK X' (k := 1) (by decide)
theorem p_t2 {τ : Nat → TF} {K : Nat → Int32} {h' : Hp} (X' : RX τ K h') : s_Mod_term 2 h' = some (mk pF K 32) := p_termK X' (k := 2) (by decide)
theorem p_t7 {τ : Nat → TF} {K : Nat → Int32} {h' : Hp} (X' : RX τ K h') : s_Mod_term 7 h' = some (mk pF K 37) := p_termK X' (k := 7) (by decide)
theorem p_g1 {K : Nat → Int32} (rg : Rg K) (fall x7 : Int64) (h' : Hp) : (cnL (Int32.toInt64 (mk pF K 32)) <| some (Int64.toInt32 ((fall - x7) / (Int32.toInt64 (mk pF K 32))), h')) = some (Int64.toInt32 ((fall - x7) / (Int32.toInt64 (mk pF K 32))), h') := cnL_some (mass_ne rg) _
theorem lt_eq {α β : Type} (e : α) (F : α → β) : lt e F = F e := rfl
theorem p_gainR0 {τ : Nat → TF} {K : Nat → Int32} {h' : Hp} (X' : RX τ K h') (fall f tb : Int32) : ((s_Mod_size f h').bind fun u4 => (s_Mod_term ((1 : Int32)) h').bind fun u5 => (s_Mod_term ((7 : Int32)) h').bind fun u6 => lt ((((Int32.toInt64 f) * (Int32.toInt64 u4)) * (Int32.toInt64 (u5 + (u6 * tb)))) / ((1000 : Int64))) fun x7 => (s_Mod_term ((0 : Int32)) h').bind fun u8 => (s_Mod_term ((2 : Int32)) h').bind fun u9 => cnL (Int32.toInt64 u9) <| some (Int64.toInt32 ((((Int32.toInt64 fall) * (Int32.toInt64 u8)) - x7) / (Int32.toInt64 u9)), h')) = some (gnF (mk pF K) fall f tb, h') := by
  rw [p_size, Option.bind_some, p_t1 X', Option.bind_some, p_t7 X', Option.bind_some, lt_eq, p_t0 X', Option.bind_some, p_t2 X', Option.bind_some, p_g1 X'.2.1, gnF]
theorem p_gainR {τ : Nat → TF} {K : Nat → Int32} {h : Hp} (X : RX τ K h) {m : Nat} (hm : m < 1440) (f gl tb : Int32) :
    ∃ h', s_Mod_gain f (nI m) gl tb h = some (gn (tin τ K) (mk pF K) (hI h 96 (m / 60)) gl tb (nI m) f, h') ∧ eqO sGR h h' ∧ m84 asF h h' := by
  have hd : nI m / 60 = nI (m / 60) := nI_div (b := 60) (by omega) (by decide)
  have hix : ix (nI (m / 60)) = m / 60 := nI_clamp (by omega)
  unfold s_Mod_gain
  rw [p_fallR X hm, Option.bind_some, hd, ib_nI (by omega) (by decide), hix, p_asksOf, Option.bind_some]
  obtain ⟨h', z1, z2, z3, z4, z5⟩ := p_tellR X (q := 0) (by decide) (flA (mk pF K) (nI m) (hI h 96 (m / 60)) gl) f (nI m) (hI h 96 (m / 60)) gl 0 tb
  rw [show nI (0 + 1) = 1 from rfl] at z1
  rw [z1, Option.bind_some, z2]
  have X' : RX τ K h' := RX_eq X (z4.2 86 (by decide)).1
  refine ⟨h', ?_, z4, z5⟩
  unfold gn
  cases hT : tin τ K 0 (flA (mk pF K) (nI m) (hI h 96 (m / 60)) gl) f (nI m) (hI h 96 (m / 60)) gl 0 tb with
  | none =>
    have e0 : (if (none : Option Int32).isSome = true then (1 : Int32) else 0) = 0 := rfl
    rw [e0, if_pos (show (0 : Int32) = 0 from rfl)]
    exact p_gainR0 X' _ f tb
  | some x =>
    have e0 : (if (some x).isSome = true then (1 : Int32) else 0) = 1 := rfl
    rw [e0, if_neg (show ¬ (1 : Int32) = 0 by decide), z3 x hT, p_near, Option.bind_some]
