/-! done, margin: the reference's; the calls -/
def LX (τ : Nat → TF) (K : Nat → Int32) (h : Hp) : Prop := RX τ K h ∧ LKd (tin τ K) K h
theorem p_canBeR {τ : Nat → TF} {K : Nat → Int32} {h : Hp} (X : LX τ K h) {b c m : Nat} (hb : b < 6) (hc : c < 50) (hm : m < 1440) : s_Mod_canBe (nI b) (nI c) (nI m) h = some (if canB (tin τ K) K b c m then 1 else 0) := by
  obtain ⟨k, hk, ek⟩ := Rg_kind X.1.2.1 hc
  unfold s_Mod_canBe s_Mod_canBe_44 s_Mod_canBe_45 canB
  rw [p_kindR X.1 hc, Option.bind_some, Option.bind_some, bz_0, bz_1, ek, show (1440 : Int32) = nI 1440 from rfl, nI_mul, nI_add, ib_nI (by omega) (by decide), show ix (nI (1440 * k + m)) = 1440 * k + m from nI_clamp (by omega), X.2.2 k m hk hm, show (91 : Int32) = nI 91 from rfl, show (2 : Int32) = nI 2 from rfl, nI_mul, nI_add, nI_1, ib_nI (by omega) (by decide), show ix (nI (91 + 2 * b + 1)) = 91 + 2 * b + 1 from nI_clamp (by omega), X.1.1, show 91 + 2 * b + 1 = 92 + 2 * b by omega]
  by_cases z : nI k = 0
  · rw [if_pos z, decide_eq_true z]; rfl
  · rw [if_neg z, decide_eq_false z]
    by_cases y : wh (tin τ K) (mk pF K) (td0 (tin τ K) (mk pF K)) (nI k) m ≤ K (92 + 2 * b)
    · rw [if_neg (Int32.not_lt.mpr y), decide_eq_true y]; rfl
    · rw [if_pos (Int32.not_le.mp y), decide_eq_false y]; rfl
theorem p_behind {τ : Nat → TF} {K : Nat → Int32} {h : Hp} (X : LX τ K h) {b c st mv : Nat} {sl : Int32} (hb : b < 6) (hc : c < 50) (hst : st < 900) (hmv : mv ≤ 4) (hsl : na sl ≤ 60) : s_Mod_behind (nI b) (nI c) (nI st) (nI mv) sl h = some (oI (beh (tin τ K) K b c st mv sl)) := by
  obtain ⟨v, t1, t2, t3⟩ := p_toOf hc hmv h
  have m1 := mnS_e st sl
  have m2 := mnS_e (st + 1) sl
  have t6 : s_Mod_term 6 h = some (mk pF K 36) := p_termK X.1 (k := 6) (by decide)
  unfold s_Mod_behind beh
  rw [t1, Option.bind_some]
  cases ht : toC c mv with
  | none =>
    rw [if_pos (t2 ht)]
    rfl
  | some t =>
    have tl := toC_lt hc ht
    have tv : v = nI t := t3 t ht
    subst tv
    rw [if_neg (nI_pos (by omega)), nI_1]
    show _ = some (oI (if st + 1 < 144 then (if (mayG K mv (fa (mk pF K) (td0 (tin τ K) (mk pF K)) (K (41 + c)) (mnS st sl)) (K (91 + 2 * b)) && canB (tin τ K) K b t (mnS (st + 1) sl)) = true then some t else none) else none))
    by_cases z : st + 1 < 144
    · rw [if_pos (by rw [show (144 : Int32) = nI 144 from rfl, nI_ltI (by omega) (by decide)]; exact z), if_pos z, p_kindR X.1 hc, Option.bind_some, p_minuteOf (by omega) hsl, Option.bind_some, p_flowAt X.1 X.2.1 m1.1, Option.bind_some, show (91 : Int32) + 2 * nI b = nI (91 + 2 * b) by rw [show (91 : Int32) = nI 91 from rfl, show (2 : Int32) = nI 2 from rfl, nI_mul, nI_add], ib_nI (by omega) (by decide), show ix (nI (91 + 2 * b)) = 91 + 2 * b from nI_clamp (by omega), X.1.1, lt_eq]
      have e0 : s_Mod_behind_125 (nI b) (nI st) sl (nI t) 0 h = some (-1) := rfl
      have e1 : s_Mod_behind_125 (nI b) (nI st) sl (nI t) 1 h = some (if canB (tin τ K) K b t (mnS (st + 1) sl) then nI t else -1) := by
        unfold s_Mod_behind_125 s_Mod_behind_155 s_Mod_behind_156
        rw [if_neg (by decide), nI_1, p_minuteOf (by omega) hsl, Option.bind_some, p_canBeR X hb tl m2.1, Option.bind_some]
        cases canB (tin τ K) K b t (mnS (st + 1) sl) with
        | true => rfl
        | false => rfl
      have fin : ∀ (P : Prop) [Decidable P], mayG K mv (fa (mk pF K) (td0 (tin τ K) (mk pF K)) (K (41 + c)) (mnS st sl)) (K (91 + 2 * b)) = !decide P → (if P then s_Mod_behind_125 (nI b) (nI st) sl (nI t) 0 h else s_Mod_behind_125 (nI b) (nI st) sl (nI t) 1 h) = some (oI (if (mayG K mv (fa (mk pF K) (td0 (tin τ K) (mk pF K)) (K (41 + c)) (mnS st sl)) (K (91 + 2 * b)) && canB (tin τ K) K b t (mnS (st + 1) sl)) = true then some t else none)) := by
        intro P _ e
        rw [e, e0, e1]
        by_cases y : P
        · rw [if_pos y, decide_eq_true y]; rfl
        · rw [if_neg y, decide_eq_false y]
          cases canB (tin τ K) K b t (mnS (st + 1) sl) with
          | true => rfl
          | false => rfl
      rcases (show mv = 0 ∨ mv = 1 ∨ mv = 2 ∨ mv = 3 ∨ mv = 4 by omega) with rfl | rfl | rfl | rfl | rfl
      · rw [if_neg (show ¬ nI 0 = 1 by decide), if_neg (show ¬ nI 0 = 2 by decide), p_size, Option.bind_some]
        exact fin _ rfl
      · rw [if_pos (show nI 1 = 1 from rfl), t6, Option.bind_some]
        exact fin _ rfl
      · rw [if_neg (show ¬ nI 2 = 1 by decide), if_pos (show nI 2 = 2 from rfl), t6, Option.bind_some]
        exact fin _ rfl
      · rw [if_neg (show ¬ nI 3 = 1 by decide), if_neg (show ¬ nI 3 = 2 by decide), p_size, Option.bind_some]
        exact fin _ rfl
      · rw [if_neg (show ¬ nI 4 = 1 by decide), if_neg (show ¬ nI 4 = 2 by decide), p_size, Option.bind_some]
        exact fin _ rfl
    · rw [if_neg (by rw [show (144 : Int32) = nI 144 from rfl, nI_ltI (by omega) (by decide)]; exact z), if_neg z]
      rfl
theorem oI_ne {o : Option Nat} (h : ∀ t, o = some t → t < 2147483648) : oI o = -1 ↔ o = none := by
  cases o with
  | none => exact ⟨fun _ => rfl, fun _ => rfl⟩
  | some t =>
    refine ⟨fun z => ?_, fun z => by cases z⟩
    have : nI t < 0 := by
      have z : nI t = -1 := z
      rw [z]; decide
    exact absurd this (nI_pos (h t rfl))
theorem beh_lt {T : TF} {K : Nat → Int32} {b c st mv t : Nat} {sl : Int32} (hc : c < 50) (e : beh T K b c st mv sl = some t) : t < 50 := by
  unfold beh at e
  cases ht : toC c mv with
  | none => rw [ht] at e; cases e
  | some q =>
    rw [ht] at e
    have e : (if st + 1 < 144 then (if (mayG K mv (fa (mk pF K) (td0 T (mk pF K)) (K (41 + c)) (mnS st sl)) (K (91 + 2 * b)) && canB T K b q (mnS (st + 1) sl)) = true then some q else none) else none) = some t := e
    split at e
    · split at e
      · cases e; exact toC_lt hc ht
      · cases e
    · cases e
theorem p_doneR {τ : Nat → TF} {K : Nat → Int32} {h : Hp} (X : LX τ K h) {b st c : Nat} {sl : Int32} (hb : b < 6) (hst : st < 144) (hc : c < 50) (hsl : na sl ≤ 60) : s_Mod_doneOf (nI b) (nI st) (nI c) sl h = some (oI (dnO (tin τ K) K b st c sl)) := by
  have rg := X.1.2.1
  obtain ⟨k, hk, ek⟩ := Rg_nat rg (j := 187) (b := 40) (by decide) (by decide) (by decide)
  have ik : ix (K 187) = k := by rw [ek]; exact nI_clamp (by omega)
  have key : ∀ (q i c : Nat), i + q = k → c < 50 → lp (fun q : Int32 × Int32 × Int32 × Int32 × Int32 => s_Mod_doneOf_23 q.1 q.2.1 q.2.2.1 q.2.2.2.1 q.2.2.2.2 h) (nI b, nI st, sl, nI c, nI i) = some (nI (dnF (tin τ K) K b st sl q i c)) := by
    intro q
    induction q with
    | zero =>
      intro i c hi hc
      have hi : i = k := by omega
      subst hi
      refine lp_inr ?_
      show s_Mod_doneOf_23 (nI b) (nI st) sl (nI c) (nI i) h = _
      unfold s_Mod_doneOf_23
      rw [ib_some _ (by decide) (by decide), ib_some _ (by decide) (by decide), show ix 187 = 187 by decide, X.1.1, ek, if_pos (Int32.le_refl _)]
      rfl
    | succ q ih =>
      intro i c hi hc
      obtain ⟨mv, hmv, emv, imv⟩ := Rg_plan rg (show i < 40 by omega)
      have stp : s_Mod_doneOf_23 (nI b) (nI st) sl (nI c) (nI i) h = match beh (tin τ K) K b c (st + i) mv sl with
          | none => some (.inr (nI i))
          | some t => some (.inl (nI b, nI st, sl, nI t, nI (i + 1))) := by
        unfold s_Mod_doneOf_23
        rw [ib_some _ (by decide) (by decide), show ix 187 = 187 by decide, X.1.1, ek, if_neg (by rw [nI_leI (by omega) (by omega)]; omega), show (121 : Int32) + nI i = nI (121 + i) by rw [show (121 : Int32) = nI 121 from rfl, nI_add], ib_nI (by omega) (by decide), show ix (nI (121 + i)) = 121 + i from nI_clamp (by omega), emv, nI_add, p_behind X hb hc (by omega) hmv hsl, Option.bind_some, nI_1]
        cases hx : beh (tin τ K) K b c (st + i) mv sl with
        | none =>
          show (if (-1 : Int32) = -1 then _ else _) = _
          rw [if_pos rfl]
        | some t =>
          have tl := beh_lt hc hx
          show (if nI t = -1 then _ else _) = _
          rw [if_neg (fun z => by
            have : nI t < 0 := by rw [z]; decide
            exact nI_pos (by omega) this)]
          rfl
      rw [dnF, imv]
      cases hx : beh (tin τ K) K b c (st + i) mv sl with
      | none =>
        rw [hx] at stp
        exact lp_inr stp
      | some t =>
        rw [hx] at stp
        have tl := beh_lt hc hx
        rw [lp_inl stp]
        exact ih (i + 1) t (by omega) tl
  unfold s_Mod_doneOf dnO
  rw [p_minuteOf (by omega) hsl, Option.bind_some, p_canBeR X hb hc (mnS_e st sl).1, Option.bind_some, ik]
  cases canB (tin τ K) K b c (mnS st sl) with
  | false => rfl
  | true => exact key k 0 c (by omega) hc
theorem p_isWay {τ : Nat → TF} {K : Nat → Int32} {h : Hp} (X : RX τ K h) (x1 x2 x3 x4 : Int32) : s_Mod_isWay x1 x2 x3 x4 h = some (if wi x1 0 (K 185 - 1) = 0 then 0 else if wi x2 0 143 = 0 then 0 else if wi x3 0 49 = 0 then 0 else if wi x4 0 49 = 0 then 0 else 1) := by
  unfold s_Mod_isWay s_Mod_isWay_34 s_Mod_isWay_35
  rw [p_isBoatR X, Option.bind_some, bz_0, bz_1]
  by_cases h1 : wi x1 0 (K 185 - 1) = 0
  · rw [if_pos h1, if_pos h1]
  rw [if_neg h1, if_neg h1, p_isStepR, Option.bind_some]
  by_cases h2 : wi x2 0 143 = 0
  · rw [if_pos h2, if_pos h2]
  rw [if_neg h2, if_neg h2, p_isCellR, Option.bind_some]
  by_cases h3 : wi x3 0 49 = 0
  · rw [if_pos h3, if_pos h3]
  rw [if_neg h3, if_neg h3, p_isCellR, Option.bind_some]
  by_cases h4 : wi x4 0 49 = 0
  · rw [if_pos h4, if_pos h4]
  rw [if_neg h4, if_neg h4]
theorem p_todayX {τ : Nat → TF} {K : Nat → Int32} {h : Hp} (X : QX τ K h) : ∃ h1, s_Water_freshenToday h = some h1 ∧ eqO sC h h1 ∧ TX τ K h1 := by
  obtain ⟨h1, a1, a2, a3, a4, a5, a6, a7⟩ := p_today X
  exact ⟨h1, a1, eqO_mono a2 sTd_sC, a3, a6, a7⟩
theorem na_60 {x : Int32} (h : wi x (-60) 60 = 1) : na x ≤ 60 := by
  obtain ⟨h1, h2⟩ := wi_1.mp h
  exact na_le h1 h2 (by decide) (by decide)
def aDone (x1 x2 x3 x4 : Int32) (T : TF) (K : Nat → Int32) : Int32 := if wi x1 0 (K 185 - 1) = 0 then -1 else if wi x2 0 143 = 0 then -1 else if wi x3 0 49 = 0 then -1 else if wi x4 (-60) 60 = 0 then -1 else oI (dnO T K (ix x1) (ix x2) (ix x3) x4)
theorem C_done {τ : Nat → TF} {K : Nat → Int32} {h : Hp} (x1 x2 x3 x4 : Int32) (X : QX τ K h) : ∃ h1, s_Race_done x1 x2 x3 x4 h = some (aDone x1 x2 x3 x4 (tin τ K) K, h1) ∧ CQ (tin τ K) K h h1 := by
  unfold s_Race_done s_Race_done_34 aDone
  rw [p_isBoatC X.1.1, Option.bind_some]
  by_cases h1 : wi x1 0 (K 185 - 1) = 0
  · rw [if_pos h1, if_pos h1]; exact ⟨h, rfl, QX_CQ X (eqO_refl _ _) X⟩
  rw [if_neg h1, if_neg h1, p_isStepC, Option.bind_some]
  by_cases h2 : wi x2 0 143 = 0
  · rw [if_pos h2, if_pos h2]; exact ⟨h, rfl, QX_CQ X (eqO_refl _ _) X⟩
  rw [if_neg h2, if_neg h2, p_isCellC, Option.bind_some]
  by_cases h3 : wi x3 0 49 = 0
  · rw [if_pos h3, if_pos h3]; exact ⟨h, rfl, QX_CQ X (eqO_refl _ _) X⟩
  rw [if_neg h3, if_neg h3, p_within, Option.bind_some]
  by_cases h4 : wi x4 (-60) 60 = 0
  · rw [if_pos h4, if_pos h4]; exact ⟨h, rfl, QX_CQ X (eqO_refl _ _) X⟩
  rw [if_neg h4, if_neg h4]
  obtain ⟨b, hb, rfl⟩ := boat_n X.1.2.1 (wi_n0 h1)
  obtain ⟨st, hst, rfl⟩ := wi_nat (b := 143) (by decide) (wi_n0 h2)
  obtain ⟨c, hc, rfl⟩ := wi_nat (b := 49) (by decide) (wi_n0 h3)
  obtain ⟨g, a1, a2, a3⟩ := p_todayX X
  obtain ⟨g2, b1, b2⟩ := p_doneC a3 (b := b) (st := st) (c := c) hb (by omega) (by omega) x4
  rw [a1, Option.bind_some, b1, Option.bind_some, show ix (nI b) = b from nI_clamp (by omega), show ix (nI st) = st from nI_clamp (by omega), show ix (nI c) = c from nI_clamp (by omega)]
  exact ⟨g2, rfl, QX_CQ X (eqO_trans a2 (eqO_mono b2 sGn_sC)) (QX_gn a3.1 b2)⟩
theorem R_done {τ : Nat → TF} {K : Nat → Int32} {n : Nat} {h : Hp} (x1 x2 x3 x4 : Int32) (X : RX τ K h) (rc : RC (tin τ K) K n h) : ∃ h2, s_Mod_done x1 x2 x3 x4 h = some (aDone x1 x2 x3 x4 (tin τ K) K, h2) ∧ RE (tin τ K) K n h h2 := by
  unfold s_Mod_done s_Mod_done_23 aDone
  rw [p_isWay X, Option.bind_some]
  by_cases h1 : wi x1 0 (K 185 - 1) = 0
  · rw [if_pos h1, if_pos h1, if_pos rfl]; exact ⟨h, rfl, RE_refl rc⟩
  rw [if_neg h1, if_neg h1]
  by_cases h2 : wi x2 0 143 = 0
  · rw [if_pos h2, if_pos h2, if_pos rfl]; exact ⟨h, rfl, RE_refl rc⟩
  rw [if_neg h2, if_neg h2]
  by_cases h3 : wi x3 0 49 = 0
  · rw [if_pos h3, if_pos h3, if_pos rfl]; exact ⟨h, rfl, RE_refl rc⟩
  rw [if_neg h3, if_neg h3, if_neg h3, if_neg (show ¬ (1 : Int32) = 0 by decide), p_lies, Option.bind_some]
  by_cases h4 : wi x4 (-60) 60 = 0
  · rw [if_pos h4, if_pos h4]; exact ⟨h, rfl, RE_refl rc⟩
  rw [if_neg h4, if_neg h4]
  obtain ⟨b, hb, rfl⟩ := boat_n X.2.1 (wi_n0 h1)
  obtain ⟨st, hst, rfl⟩ := wi_nat (b := 143) (by decide) (wi_n0 h2)
  obtain ⟨c, hc, rfl⟩ := wi_nat (b := 49) (by decide) (wi_n0 h3)
  obtain ⟨h2, b1, b2, b3, b4, b5, b6⟩ := p_looks X rc
  rw [b1, Option.bind_some, p_doneR ⟨b4, b6⟩ hb (by omega) (by omega) (na_60 (wi_n0 h4)), Option.bind_some, show ix (nI b) = b from nI_clamp (by omega), show ix (nI st) = st from nI_clamp (by omega), show ix (nI c) = c from nI_clamp (by omega)]
  exact ⟨h2, rfl, b2, b3, b5⟩
theorem Q_done (n : Nat) (x1 x2 x3 x4 : Int32) (h : Hp) (_ : n < 512) (hi : Inv n h) : ∃ h2, q_done x1 x2 x3 x4 h = some h2 ∧ Inv (n + 1) h2 := ask hi (aDone x1 x2 x3 x4) (fun _ _ X => C_done x1 x2 x3 x4 X) (fun _ _ _ _ X rc => R_done x1 x2 x3 x4 X rc)
theorem dnF_le {T : TF} {K : Nat → Int32} {b st : Nat} {sl : Int32} : ∀ q i c, dnF T K b st sl q i c ≤ i + q
  | 0, _, _ => Nat.le_refl _
  | q + 1, i, c => by
    unfold dnF
    cases beh T K b c (st + i) (ix (K (121 + i))) sl with
    | none => show i ≤ _; omega
    | some t =>
      have := dnF_le (T := T) (K := K) (b := b) (st := st) (sl := sl) q (i + 1) t
      show dnF T K b st sl q (i + 1) t ≤ _
      omega
def ful (T : TF) (K : Nat → Int32) (b st c : Nat) (sl : Int32) : Bool := decide (dnO T K b st c sl = some (ix (K 187)))
theorem ful_e {T : TF} {K : Nat → Int32} {b st c k : Nat} {sl : Int32} (ek : K 187 = nI k) (hk : k ≤ 40) : (oI (dnO T K b st c sl) < nI k ↔ ful T K b st c sl = false) ∧ (oI (dnO T K b st c sl) = nI k ↔ ful T K b st c sl = true) := by
  have ik : ix (K 187) = k := by rw [ek]; exact nI_clamp (by omega)
  unfold ful
  cases hd : dnO T K b st c sl with
  | none =>
    rw [decide_eq_false (by intro z; cases z)]
    refine ⟨⟨fun _ => rfl, fun _ => ?_⟩, ⟨fun z => ?_, fun z => by cases z⟩⟩
    · show (-1 : Int32) < nI k
      rw [Int32.lt_iff_toInt_lt, nI_toInt (by omega), show (-1 : Int32).toInt = -1 by decide]
      omega
    · have z : (-1 : Int32) = nI k := z
      have : nI k < 0 := by rw [← z]; decide
      exact absurd this (nI_pos (by omega))
  | some t =>
    have tl : t ≤ k := by
      unfold dnO at hd
      split at hd
      · cases hd
        have := dnF_le (T := T) (K := K) (b := b) (st := st) (sl := sl) (ix (K 187)) 0 c
        omega
      · cases hd
    rw [ik]
    show (nI t < nI k ↔ _) ∧ (nI t = nI k ↔ _)
    rw [nI_ltI (by omega) (by omega), nI_eq (by omega) (by omega)]
    by_cases z : t = k
    · subst z
      rw [decide_eq_true rfl]
      exact ⟨⟨fun y => absurd y (by omega), fun y => by cases y⟩, ⟨fun _ => rfl, fun _ => rfl⟩⟩
    · rw [decide_eq_false (fun y => z (Option.some.inj y))]
      exact ⟨⟨fun _ => rfl, fun _ => by omega⟩, ⟨fun y => absurd y z, fun y => by cases y⟩⟩
def mgF (fl : Nat → Bool) : Nat → Nat → Int32
  | 0, m => nI m - 1
  | r + 1, m => if fl m then mgF fl r (m + 1) else nI m - 1
def aMargin (x1 x2 x3 : Int32) (T : TF) (K : Nat → Int32) : Int32 := if wi x1 0 (K 185 - 1) = 0 then -1 else if wi x2 0 143 = 0 then -1 else if wi x3 0 49 = 0 then -1 else mgF (fun m => ful T K (ix x1) (ix x2) (ix x3) (nI m) && ful T K (ix x1) (ix x2) (ix x3) (-(nI m))) 61 0
theorem C_margin {τ : Nat → TF} {K : Nat → Int32} {h : Hp} (x1 x2 x3 : Int32) (X : QX τ K h) : ∃ h1, s_Race_margin x1 x2 x3 h = some (aMargin x1 x2 x3 (tin τ K) K, h1) ∧ CQ (tin τ K) K h h1 := by
  unfold s_Race_margin s_Race_margin_22 aMargin
  rw [p_isBoatC X.1.1, Option.bind_some]
  by_cases h1 : wi x1 0 (K 185 - 1) = 0
  · rw [if_pos h1, if_pos h1]; exact ⟨h, rfl, QX_CQ X (eqO_refl _ _) X⟩
  rw [if_neg h1, if_neg h1, p_isStepC, Option.bind_some]
  by_cases h2 : wi x2 0 143 = 0
  · rw [if_pos h2, if_pos h2]; exact ⟨h, rfl, QX_CQ X (eqO_refl _ _) X⟩
  rw [if_neg h2, if_neg h2, p_isCellC, Option.bind_some]
  by_cases h3 : wi x3 0 49 = 0
  · rw [if_pos h3, if_pos h3]; exact ⟨h, rfl, QX_CQ X (eqO_refl _ _) X⟩
  rw [if_neg h3, if_neg h3]
  obtain ⟨b, hb, rfl⟩ := boat_n X.1.2.1 (wi_n0 h1)
  obtain ⟨st, hst, rfl⟩ := wi_nat (b := 143) (by decide) (wi_n0 h2)
  obtain ⟨c, hc, rfl⟩ := wi_nat (b := 49) (by decide) (wi_n0 h3)
  obtain ⟨g, a1, a2, a3⟩ := p_todayX X
  obtain ⟨k, hk, ek⟩ := Rg_nat X.1.2.1 (j := 187) (b := 40) (by decide) (by decide) (by decide)
  rw [a1, Option.bind_some, show ix (nI b) = b from nI_clamp (by omega), show ix (nI st) = st from nI_clamp (by omega), show ix (nI c) = c from nI_clamp (by omega)]
  have key : ∀ (q m : Nat) (g2 : Hp), m + q = 61 → eqO sGn g g2 → ∃ h1, lp (fun q : Int32 × Int32 × Int32 × Int32 × Hp => s_Ways_widestSlip_3 q.1 q.2.1 q.2.2.1 q.2.2.2.1 q.2.2.2.2) (nI b, nI st, nI c, nI m, g2) = some (mgF (fun m => ful (tin τ K) K b st c (nI m) && ful (tin τ K) K b st c (-(nI m))) q m, h1) ∧ eqO sGn g h1 := by
    intro q
    induction q with
    | zero =>
      intro m g2 hm E
      have hm : m = 61 := by omega
      subst hm
      refine ⟨g2, lp_inr ?_, E⟩
      show s_Ways_widestSlip_3 (nI b) (nI st) (nI c) (nI 61) g2 = _
      unfold s_Ways_widestSlip_3
      rw [if_pos (show (60 : Int32) < nI 61 by decide)]
      rfl
    | succ q ih =>
      intro m g2 hm E
      obtain ⟨g3, c1, c2⟩ := p_doneC (TX_gn a3 E) (b := b) (st := st) (c := c) hb (by omega) (by omega) (nI m)
      obtain ⟨g4, d1, d2⟩ := p_doneC (TX_gn a3 (eqO_trans E c2)) (b := b) (st := st) (c := c) hb (by omega) (by omega) (-(nI m))
      have e3 : hI g3 1 16 = nI k := (StP_at (TX_gn a3 (eqO_trans E c2)).1.1.1 (by decide) (show pl 187 = (0, 16) by decide)).trans ek
      have e4 : hI g4 1 16 = nI k := (StP_at (TX_gn a3 (eqO_trans E (eqO_trans c2 d2))).1.1.1 (by decide) (show pl 187 = (0, 16) by decide)).trans ek
      have f1 := ful_e (T := tin τ K) (b := b) (st := st) (c := c) (sl := nI m) ek hk
      have f2 := ful_e (T := tin τ K) (b := b) (st := st) (c := c) (sl := -(nI m)) ek hk
      have stp : s_Ways_widestSlip_3 (nI b) (nI st) (nI c) (nI m) g2 = if ful (tin τ K) K b st c (nI m) = false then some (.inr (nI m - 1, g3)) else if ful (tin τ K) K b st c (-(nI m)) = false then some (.inr (nI m - 1, g4)) else some (.inl (nI b, nI st, nI c, nI (m + 1), g4)) := by
        unfold s_Ways_widestSlip_3 s_Ways_widestSlip_49
        rw [if_neg (by rw [show (60 : Int32) = nI 60 from rfl, nI_ltI (by decide) (by omega)]; omega), c1, Option.bind_some]
        show (if oI (dnO (tin τ K) K b st c (nI m)) < hI g3 1 16 then _ else _) = _
        rw [e3]
        by_cases z : ful (tin τ K) K b st c (nI m) = false
        · rw [if_pos (f1.1.mpr z), if_pos z]; rfl
        · rw [if_neg (fun y => z (f1.1.mp y)), if_neg z]
          show ((s_Ways_movesDone (nI b) (nI st) (nI c) (-(nI m)) g3).bind _) = _
          rw [d1, Option.bind_some]
          show (if hI g4 1 16 ≤ oI (dnO (tin τ K) K b st c (-(nI m))) then _ else _) = _
          rw [e4, nI_1]
          by_cases y : ful (tin τ K) K b st c (-(nI m)) = false
          · rw [if_neg (Int32.not_le.mpr (f2.1.mpr y)), if_pos y]; rfl
          · rw [if_pos (Int32.not_lt.mp (fun x => y (f2.1.mp x))), if_neg y]
      unfold mgF
      cases z : ful (tin τ K) K b st c (nI m) with
      | false =>
        rw [z, if_pos rfl] at stp
        exact ⟨g3, lp_inr stp, eqO_trans E c2⟩
      | true =>
        rw [z, if_neg (by decide)] at stp
        cases y : ful (tin τ K) K b st c (-(nI m)) with
        | false =>
          rw [y, if_pos rfl] at stp
          exact ⟨g4, lp_inr stp, eqO_trans E (eqO_trans c2 d2)⟩
        | true =>
          rw [y, if_neg (by decide)] at stp
          rw [lp_inl stp]
          exact ih (m + 1) g4 (by omega) (eqO_trans E (eqO_trans c2 d2))
  obtain ⟨h1, b1, b2⟩ := key 61 0 g (by decide) (eqO_refl _ _)
  refine ⟨h1, ?_, QX_CQ X (eqO_trans a2 (eqO_mono b2 sGn_sC)) (QX_gn a3.1 b2)⟩
  show ((lp _ (nI b, nI st, nI c, nI 0, g)).bind _) = _
  rw [b1, Option.bind_some]
theorem R_margin {τ : Nat → TF} {K : Nat → Int32} {n : Nat} {h : Hp} (x1 x2 x3 : Int32) (X : RX τ K h) (rc : RC (tin τ K) K n h) : ∃ h2, s_Mod_margin x1 x2 x3 h = some (aMargin x1 x2 x3 (tin τ K) K, h2) ∧ RE (tin τ K) K n h h2 := by
  unfold s_Mod_margin aMargin
  rw [p_isWay X, Option.bind_some]
  by_cases h1 : wi x1 0 (K 185 - 1) = 0
  · rw [if_pos h1, if_pos h1, if_pos rfl]; exact ⟨h, rfl, RE_refl rc⟩
  rw [if_neg h1, if_neg h1]
  by_cases h2 : wi x2 0 143 = 0
  · rw [if_pos h2, if_pos h2, if_pos rfl]; exact ⟨h, rfl, RE_refl rc⟩
  rw [if_neg h2, if_neg h2]
  by_cases h3 : wi x3 0 49 = 0
  · rw [if_pos h3, if_pos h3, if_pos rfl]; exact ⟨h, rfl, RE_refl rc⟩
  rw [if_neg h3, if_neg h3, if_neg h3, if_neg (show ¬ (1 : Int32) = 0 by decide)]
  obtain ⟨b, hb, rfl⟩ := boat_n X.2.1 (wi_n0 h1)
  obtain ⟨st, hst, rfl⟩ := wi_nat (b := 143) (by decide) (wi_n0 h2)
  obtain ⟨c, hc, rfl⟩ := wi_nat (b := 49) (by decide) (wi_n0 h3)
  obtain ⟨g, b1, b2, b3, b4, b5, b6⟩ := p_looks X rc
  obtain ⟨k, hk, ek⟩ := Rg_nat X.2.1 (j := 187) (b := 40) (by decide) (by decide) (by decide)
  rw [b1, Option.bind_some, show ix (nI b) = b from nI_clamp (by omega), show ix (nI st) = st from nI_clamp (by omega), show ix (nI c) = c from nI_clamp (by omega)]
  refine ⟨g, ?_, b2, b3, b5⟩
  have key : ∀ (q m : Nat), m + q = 61 → lp (fun q : Int32 × Int32 × Int32 × Int32 × Hp => s_Mod_margin_20 q.1 q.2.1 q.2.2.1 q.2.2.2.1 q.2.2.2.2) (nI b, nI st, nI c, nI m, g) = some (mgF (fun m => ful (tin τ K) K b st c (nI m) && ful (tin τ K) K b st c (-(nI m))) q m, g) := by
    intro q
    induction q with
    | zero =>
      intro m hm
      have hm : m = 61 := by omega
      subst hm
      refine lp_inr ?_
      show s_Mod_margin_20 (nI b) (nI st) (nI c) (nI 61) g = _
      unfold s_Mod_margin_20
      rw [if_pos (show (60 : Int32) < nI 61 by decide)]
      rfl
    | succ q ih =>
      intro m hm
      have f1 := ful_e (T := tin τ K) (b := b) (st := st) (c := c) (sl := nI m) ek hk
      have f2 := ful_e (T := tin τ K) (b := b) (st := st) (c := c) (sl := -(nI m)) ek hk
      have n1 : na (nI m) ≤ 60 := by rw [na_nI (by omega)]; omega
      have stp : s_Mod_margin_20 (nI b) (nI st) (nI c) (nI m) g = if ful (tin τ K) K b st c (nI m) = false then some (.inr (nI m - 1, g)) else if ful (tin τ K) K b st c (-(nI m)) = false then some (.inr (nI m - 1, g)) else some (.inl (nI b, nI st, nI c, nI (m + 1), g)) := by
        unfold s_Mod_margin_20 s_Mod_margin_74
        rw [if_neg (by rw [show (60 : Int32) = nI 60 from rfl, nI_ltI (by decide) (by omega)]; omega), p_doneR ⟨b4, b6⟩ hb (by omega) (by omega) n1, Option.bind_some, ib_some _ (by decide) (by decide), show ix 187 = 187 by decide, b4.1, ek]
        by_cases z : ful (tin τ K) K b st c (nI m) = false
        · rw [if_neg (fun y => by rw [f1.2.mp y] at z; cases z), if_pos z]; rfl
        · have z2 : ful (tin τ K) K b st c (nI m) = true := by
            cases hz : ful (tin τ K) K b st c (nI m)
            · exact absurd hz z
            · rfl
          rw [if_pos (f1.2.mpr z2), if_neg z, p_doneR ⟨b4, b6⟩ hb (by omega) (by omega) (na_neg n1 (by decide)).2, Option.bind_some, ib_some _ (by decide) (by decide), nI_1]
          by_cases y : ful (tin τ K) K b st c (-(nI m)) = false
          · rw [if_neg (fun x => by rw [f2.2.mp x] at y; cases y), if_pos y]; rfl
          · have y2 : ful (tin τ K) K b st c (-(nI m)) = true := by
              cases hz : ful (tin τ K) K b st c (-(nI m))
              · exact absurd hz y
              · rfl
            rw [if_pos (f2.2.mpr y2), if_neg y]
      unfold mgF
      cases z : ful (tin τ K) K b st c (nI m) with
      | false =>
        rw [z, if_pos rfl] at stp
        exact lp_inr stp
      | true =>
        rw [z, if_neg (by decide)] at stp
        cases y : ful (tin τ K) K b st c (-(nI m)) with
        | false =>
          rw [y, if_pos rfl] at stp
          exact lp_inr stp
        | true =>
          rw [y, if_neg (by decide)] at stp
          rw [lp_inl stp]
          exact ih (m + 1) (by omega)
  exact key 61 0 (by decide)
theorem Q_margin (n : Nat) (x1 x2 x3 : Int32) (h : Hp) (_ : n < 512) (hi : Inv n h) : ∃ h2, q_margin x1 x2 x3 h = some h2 ∧ Inv (n + 1) h2 := ask hi (aMargin x1 x2 x3) (fun _ _ X => C_margin x1 x2 x3 X) (fun _ _ _ _ X rc => R_margin x1 x2 x3 X rc)
