/-! done, margin -/
def oI (o : Option Nat) : Int32 := match o with
  | none => -1
  | some t => nI t
def toC (c mv : Nat) : Option Nat := if mv = 1 then (if c % 10 = 9 then none else some (c + 1)) else if mv = 2 then (if c % 10 = 0 then none else some (c - 1)) else if mv = 3 then (if c + 10 < 50 then some (c + 10) else none) else if mv = 4 then (if c < 10 then none else some (c - 10)) else some c
theorem toC_lt {c mv t : Nat} (hc : c < 50) (e : toC c mv = some t) : t < 50 := by
  unfold toC at e
  repeat' split at e
  all_goals first | (cases e; omega) | cases e
def mnS (st : Nat) (sl : Int32) : Nat := ix (clp (nI (10 * st) + sl) 0 1439)
theorem mnS_e (st : Nat) (sl : Int32) : mnS st sl < 1440 ∧ clp (nI (10 * st) + sl) 0 1439 = nI (mnS st sl) := by
  have : ∃ c, c < 1440 ∧ clp (nI (10 * st) + sl) 0 1439 = nI c := by
    unfold clp
    by_cases h1 : nI (10 * st) + sl < 0
    · rw [if_pos h1]; exact ⟨0, by decide, rfl⟩
    rw [if_neg h1]
    by_cases h2 : 1439 < nI (10 * st) + sl
    · rw [if_pos h2]; exact ⟨1439, by decide, rfl⟩
    rw [if_neg h2]
    obtain ⟨c, hc, e⟩ := nI_of h1
    refine ⟨c, ?_, e⟩
    rw [e, Int32.not_lt] at h2
    have := (nI_leI (b := 1439) hc (by decide)).mp h2
    omega
  obtain ⟨c, hc, e⟩ := this
  unfold mnS
  rw [e, show ix (nI c) = c from nI_clamp (by omega)]
  exact ⟨hc, rfl⟩
def canB (T : TF) (K : Nat → Int32) (b c m : Nat) : Bool := !decide (K (41 + c) = 0) && decide (wh T (mk pF K) (td0 T (mk pF K)) (K (41 + c)) m ≤ K (92 + 2 * b))
def mayG (K : Nat → Int32) (mv : Nat) (f pace : Int32) : Bool := if mv = 1 then !decide (pace + f < mk pF K 36) else if mv = 2 then !decide (pace - f < mk pF K 36) else !decide (pace < szI f)
def beh (T : TF) (K : Nat → Int32) (b c st mv : Nat) (sl : Int32) : Option Nat := match toC c mv with
  | none => none
  | some t => if st + 1 < 144 then (if mayG K mv (fa (mk pF K) (td0 T (mk pF K)) (K (41 + c)) (mnS st sl)) (K (91 + 2 * b)) && canB T K b t (mnS (st + 1) sl) then some t else none) else none
def dnF (T : TF) (K : Nat → Int32) (b step : Nat) (sl : Int32) : Nat → Nat → Nat → Nat
  | 0, i, _ => i
  | r + 1, i, c => match beh T K b c (step + i) (ix (K (121 + i))) sl with
    | none => i
    | some t => dnF T K b step sl r (i + 1) t
def dnO (T : TF) (K : Nat → Int32) (b step c : Nat) (sl : Int32) : Option Nat := if canB T K b c (mnS step sl) then some (dnF T K b step sl (ix (K 187)) 0 c) else none
/-- small ones, the class's -/
theorem p_isBoatC {K : Nat → Int32} {h : Hp} (st : StP K h 1) (v : Int32) : s_Race_isBoat v h = some (wi v 0 (K 185 - 1)) := by
  unfold s_Race_isBoat
  rw [p_within, Option.bind_some, bz_wi, show hI h 1 15 = K 185 from StP_at st (by decide) (show pl 185 = (0, 15) by decide)]
theorem p_isStepC (v : Int32) (h : Hp) : s_Race_isStep v h = some (wi v 0 143) := by
  unfold s_Race_isStep
  rw [p_within, Option.bind_some, bz_wi]
theorem p_isStepR (v : Int32) (h : Hp) : s_Mod_isStep v h = some (wi v 0 143) := by
  unfold s_Mod_isStep
  rw [p_lies, Option.bind_some, bz_wi]
theorem p_isBoatR {τ : Nat → TF} {K : Nat → Int32} {h : Hp} (X : RX τ K h) (v : Int32) : s_Mod_isBoat v h = some (wi v 0 (K 185 - 1)) := by
  unfold s_Mod_isBoat
  rw [ib_some _ (by decide) (by decide), show ix 185 = 185 by decide, p_lies, Option.bind_some, bz_wi, X.1]
theorem boat_n {K : Nat → Int32} (rg : Rg K) {v : Int32} (h : wi v 0 (K 185 - 1) = 1) : ∃ b, b < 6 ∧ v = nI b := by
  obtain ⟨k, hk, ek⟩ := Rg_nat rg (j := 185) (b := 6) (by decide) (by decide) (by decide)
  obtain ⟨h1, h2⟩ := wi_1.mp h
  obtain ⟨b, hb, rfl⟩ := nI_of (Int32.not_lt.mpr h1)
  refine ⟨b, ?_, rfl⟩
  rw [ek] at h2
  have : nI k - 1 ≤ 5 := by
    rcases (show k = 0 ∨ k = 1 ∨ k = 2 ∨ k = 3 ∨ k = 4 ∨ k = 5 ∨ k = 6 by omega) with rfl | rfl | rfl | rfl | rfl | rfl | rfl <;> decide
  have := (nI_leI (b := 5) hb (by decide)).mp (Int32.le_trans h2 this)
  omega
theorem toC_0 (c : Nat) : toC c 0 = some c := rfl
theorem toC_1 (c : Nat) : toC c 1 = if c % 10 = 9 then none else some (c + 1) := rfl
theorem toC_2 (c : Nat) : toC c 2 = if c % 10 = 0 then none else some (c - 1) := rfl
theorem toC_3 (c : Nat) : toC c 3 = if c + 10 < 50 then some (c + 10) else none := rfl
theorem toC_4 (c : Nat) : toC c 4 = if c < 10 then none else some (c - 10) := rfl
theorem p_cellBy {c mv : Nat} (hc : c < 50) (hm : mv ≤ 4) (h : Hp) : s_Ways_cellBy (nI mv) (nI c) h = some (oI (toC c mv)) := by
  have er : z_rem (nI c) 10 = nI (c % 10) := nI_rem (b := 10) (by omega) (by decide)
  have c1 : s_Ways_cellBy (nI 1) (nI c) h = if (9 : Int32) ≤ z_rem (nI c) 10 then some (-1) else some (nI c + 1) := rfl
  have c2 : s_Ways_cellBy (nI 2) (nI c) h = if z_rem (nI c) 10 ≤ 0 then some (-1) else some (nI c - 1) := rfl
  have c3 : s_Ways_cellBy (nI 3) (nI c) h = if (50 : Int32) ≤ nI c + 10 then some (-1) else some (nI c + 10) := rfl
  have c4 : s_Ways_cellBy (nI 4) (nI c) h = if nI c < 10 then some (-1) else some (nI c - 10) := rfl
  rcases (show mv = 0 ∨ mv = 1 ∨ mv = 2 ∨ mv = 3 ∨ mv = 4 by omega) with rfl | rfl | rfl | rfl | rfl
  · rfl
  · rw [c1, er, toC_1]
    by_cases z : c % 10 = 9
    · rw [if_pos (by rw [show (9 : Int32) = nI 9 from rfl, nI_leI (by decide) (by omega)]; omega), if_pos z]; rfl
    · rw [if_neg (by rw [show (9 : Int32) = nI 9 from rfl, nI_leI (by decide) (by omega)]; omega), if_neg z, nI_1]; rfl
  · rw [c2, er, toC_2]
    by_cases z : c % 10 = 0
    · rw [if_pos (by rw [z]; decide), if_pos z]; rfl
    · rw [if_neg (nI_nle (by omega) (by omega)), if_neg z, show (1 : Int32) = nI 1 from rfl, nI_sub (by omega)]; rfl
  · rw [c3, toC_3, show (10 : Int32) = nI 10 from rfl, nI_add]
    by_cases z : c + 10 < 50
    · rw [if_neg (by rw [show (50 : Int32) = nI 50 from rfl, nI_leI (by decide) (by omega)]; omega), if_pos z]; rfl
    · rw [if_pos (by rw [show (50 : Int32) = nI 50 from rfl, nI_leI (by decide) (by omega)]; omega), if_neg z]; rfl
  · rw [c4, toC_4, show (10 : Int32) = nI 10 from rfl]
    by_cases z : c < 10
    · rw [if_pos (by rw [nI_ltI (by omega) (by decide)]; exact z), if_pos z]; rfl
    · rw [if_neg (by rw [nI_ltI (by omega) (by decide)]; exact z), if_neg z, nI_sub (by omega)]; rfl
theorem p_toOf {c mv : Nat} (hc : c < 50) (hm : mv ≤ 4) (h : Hp) : ∃ v, s_Mod_toOf (nI c) (nI mv) h = some v ∧ (toC c mv = none → v < 0) ∧ ∀ t, toC c mv = some t → v = nI t := by
  have er : z_rem (nI c) 10 = nI (c % 10) := nI_rem (b := 10) (by omega) (by decide)
  have c1 : s_Mod_toOf (nI c) (nI 1) h = if z_rem (nI c) 10 = 9 then some (-1) else some (nI c + 1) := rfl
  have c2 : s_Mod_toOf (nI c) (nI 2) h = if z_rem (nI c) 10 = 0 then some (-1) else some (nI c - 1) := rfl
  have c3 : s_Mod_toOf (nI c) (nI 3) h = if (50 : Int32) ≤ nI c + 10 then some (-1) else some (nI c + 10) := rfl
  have c4 : s_Mod_toOf (nI c) (nI 4) h = some (nI c - 10) := rfl
  have c0 : s_Mod_toOf (nI c) (nI 0) h = some (nI c) := rfl
  rcases (show mv = 0 ∨ mv = 1 ∨ mv = 2 ∨ mv = 3 ∨ mv = 4 by omega) with rfl | rfl | rfl | rfl | rfl
  · exact ⟨_, c0, fun z => (by rw [toC_0] at z; cases z), fun t z => by rw [toC_0] at z; cases z; rfl⟩
  · rw [c1, er, toC_1]
    by_cases z : c % 10 = 9
    · rw [if_pos (by rw [z]; rfl), if_pos z]
      exact ⟨_, rfl, fun _ => by decide, fun t z => by cases z⟩
    · rw [if_neg (by rw [show (9 : Int32) = nI 9 from rfl, nI_eq (by omega) (by decide)]; exact z), if_neg z, nI_1]
      exact ⟨_, rfl, fun z => (by cases z), fun t z => (by cases z; rfl)⟩
  · rw [c2, er, toC_2]
    by_cases z : c % 10 = 0
    · rw [if_pos (by rw [z]; rfl), if_pos z]
      exact ⟨_, rfl, fun _ => by decide, fun t z => by cases z⟩
    · rw [if_neg (nI_ne0 (by omega) (by omega)), if_neg z, show (1 : Int32) = nI 1 from rfl, nI_sub (by omega)]
      exact ⟨_, rfl, fun z => (by cases z), fun t z => (by cases z; rfl)⟩
  · rw [c3, toC_3, show (10 : Int32) = nI 10 from rfl, nI_add]
    by_cases z : c + 10 < 50
    · rw [if_neg (by rw [show (50 : Int32) = nI 50 from rfl, nI_leI (by decide) (by omega)]; omega), if_pos z]
      exact ⟨_, rfl, fun z => (by cases z), fun t z => (by cases z; rfl)⟩
    · rw [if_pos (by rw [show (50 : Int32) = nI 50 from rfl, nI_leI (by decide) (by omega)]; omega), if_neg z]
      exact ⟨_, rfl, fun _ => by decide, fun t z => by cases z⟩
  · rw [c4, toC_4]
    by_cases z : c < 10
    · rw [if_pos z]
      refine ⟨_, rfl, fun _ => ?_, fun t z => by cases z⟩
      rw [Int32.lt_iff_toInt_lt, Int32.toInt_sub, nI_toInt (by omega), show (10 : Int32).toInt = 10 by decide, show (0 : Int32).toInt = 0 by decide, Int.bmod_eq_of_le (by omega) (by omega)]
      omega
    · rw [if_neg z, show (10 : Int32) = nI 10 from rfl, nI_sub (by omega)]
      exact ⟨_, rfl, fun z => (by cases z), fun t z => (by cases z; rfl)⟩
theorem p_slipped {st : Nat} (hs : st < 1000) (sl : Int32) (h : Hp) : s_Ways_slipped (nI st) sl h = some (nI (mnS st sl)) := by
  unfold s_Ways_slipped
  rw [show (10 : Int32) = nI 10 from rfl, nI_mul, Nat.mul_comm st, p_nearest, Option.bind_some, (mnS_e st sl).2]
theorem p_minuteOf {st : Nat} (hs : st < 1000) {sl : Int32} (h1 : na sl ≤ 60) (h : Hp) : s_Mod_minuteOf (nI st) sl h = some (nI (mnS st sl)) := by
  unfold s_Mod_minuteOf
  rw [show (10 : Int64) = (nI 10).toInt64 by decide, mulN64 (by omega), add64 (x := nI (10 * st)) (y := sl) (A := 10000) (B := 60) (by rw [na_nI (by omega)]; omega) h1 (by decide), p_near, Option.bind_some, (mnS_e st sl).2]
theorem nb01 (P : Prop) [Decidable P] : (if P then some (0 : Int32) else some 1) = some (if (!decide P) = true then 1 else 0) := by
  by_cases z : P
  · rw [if_pos z, decide_eq_true z]; rfl
  · rw [if_neg z, decide_eq_false z]; rfl
theorem p_canMove {K : Nat → Int32} {h : Hp} (st : StP K h 1) {mv : Nat} (hm : mv ≤ 4) (f pace : Int32) : s_Ways_canMove (nI mv) f pace h = some (if mayG K mv f pace then 1 else 0) := by
  have t6 : hI h 4 6 = mk pF K 36 := kf_term st 6 (by decide)
  have c1 : s_Ways_canMove (nI 1) f pace h = if pace + f < hI h 4 6 then some 0 else some 1 := rfl
  have c2 : s_Ways_canMove (nI 2) f pace h = if pace - f < hI h 4 6 then some 0 else some 1 := rfl
  have c0 : s_Ways_canMove (nI 0) f pace h = if pace < z_abs f then some 0 else some 1 := rfl
  have c3 : s_Ways_canMove (nI 3) f pace h = if pace < z_abs f then some 0 else some 1 := rfl
  have c4 : s_Ways_canMove (nI 4) f pace h = if pace < z_abs f then some 0 else some 1 := rfl
  rw [t6] at c1 c2
  rw [z_abs_eq] at c0 c3 c4
  rcases (show mv = 0 ∨ mv = 1 ∨ mv = 2 ∨ mv = 3 ∨ mv = 4 by omega) with rfl | rfl | rfl | rfl | rfl
  · rw [c0]; exact nb01 _
  · rw [c1]; exact nb01 _
  · rw [c2]; exact nb01 _
  · rw [c3]; exact nb01 _
  · rw [c4]; exact nb01 _
/-- the class with today fresh -/
def TX (τ : Nat → TF) (K : Nat → Int32) (h : Hp) : Prop := QX τ K h ∧ TdOK (mk pF K) h ∧ ∀ m, m < 1440 → hI h 57 m = td0 (tin τ K) (mk pF K) m
theorem TX_gn {τ : Nat → TF} {K : Nat → Int32} {h h1 : Hp} (X : TX τ K h) (E : eqO sGn h h1) : TX τ K h1 := by
  refine ⟨QX_gn X.1 E, ?_, ?_⟩
  · unfold TdOK; rw [(E.2 54 (by decide)).1]; exact X.2.1
  · rw [(E.2 57 (by decide)).1]; exact X.2.2
theorem p_isOpen {τ : Nat → TF} {K : Nat → Int32} {h : Hp} (X : TX τ K h) {b c m : Nat} (hc : c < 50) (hm : m < 1440) : ∃ h1, s_Ways_isOpen (nI c) (nI m) (K (92 + 2 * b)) h = some (if canB (tin τ K) K b c m then 1 else 0, h1) ∧ eqO sGn h h1 := by
  unfold s_Ways_isOpen s_Ways_isOpen_34 s_Ways_isOpen_35 canB
  rw [ib_nI hc (by decide), show ix (nI c) = c from nI_clamp (by omega), p_kindC X.1.1.1 hc, bz_0]
  by_cases z : K (41 + c) = 0
  · rw [if_pos z, decide_eq_true z]
    exact ⟨h, rfl, eqO_refl _ _⟩
  · obtain ⟨h1, a1, a2⟩ := p_whiteC (FX_of X.1 X.2.1) X.2.2 hm (K (41 + c))
    rw [if_neg z, decide_eq_false z, a1, Option.bind_some, bz_0, bz_1]
    refine ⟨h1, ?_, a2⟩
    show (if K (92 + 2 * b) < wh (tin τ K) (mk pF K) (td0 (tin τ K) (mk pF K)) (K (41 + c)) m then some (0, h1) else some (1, h1)) = _
    by_cases y : wh (tin τ K) (mk pF K) (td0 (tin τ K) (mk pF K)) (K (41 + c)) m ≤ K (92 + 2 * b)
    · rw [if_neg (Int32.not_lt.mpr y), decide_eq_true y]; rfl
    · rw [if_pos (Int32.not_le.mp y), decide_eq_false y]; rfl
theorem Rg_plan {K : Nat → Int32} (rg : Rg K) {i : Nat} (hi : i < 40) : ∃ mv, mv ≤ 4 ∧ K (121 + i) = nI mv ∧ ix (K (121 + i)) = mv := by
  obtain ⟨mv, h1, h2⟩ := Rg_nat rg (j := 121 + i) (b := 4) (by omega) (rj_plan i hi) (by decide)
  exact ⟨mv, h1, h2, by rw [h2]; exact nI_clamp (by omega)⟩
theorem inr_some {σ τ : Type} (x : τ) : (inr (some x) : Option (σ ⊕ τ)) = some (.inr x) := rfl
theorem p_doneC {τ : Nat → TF} {K : Nat → Int32} {h : Hp} (X : TX τ K h) {b st c : Nat} (hb : b < 6) (hst : st < 144) (hc : c < 50) (sl : Int32) : ∃ h1, s_Ways_movesDone (nI b) (nI st) (nI c) sl h = some (oI (dnO (tin τ K) K b st c sl), h1) ∧ eqO sGn h h1 := by
  have rg := X.1.1.2.1
  obtain ⟨k, hk, ek⟩ := Rg_nat rg (j := 187) (b := 40) (by decide) (by decide) (by decide)
  have ik : ix (K 187) = k := by rw [ek]; exact nI_clamp (by omega)
  have key : ∀ (q i c : Nat) (g : Hp), i + q = k → c < 50 → eqO sGn h g → ∃ h1, lp (fun q : Int32 × Int32 × Int32 × Int32 × Int32 × Int32 × Int32 × Hp => s_Ways_movesDone_50 q.1 q.2.1 q.2.2.1 q.2.2.2.1 q.2.2.2.2.1 q.2.2.2.2.2.1 q.2.2.2.2.2.2.1 q.2.2.2.2.2.2.2) (nI st, sl, K (91 + 2 * b), K (92 + 2 * b), nI (mnS (st + i) sl), nI c, nI i, g) = some (nI (dnF (tin τ K) K b st sl q i c), h1) ∧ eqO sGn h h1 := by
    intro q
    induction q with
    | zero =>
      intro i c g hi hc E
      have hi : i = k := by omega
      subst hi
      have Xg := TX_gn X E
      refine ⟨g, lp_inr ?_, E⟩
      show s_Ways_movesDone_50 (nI st) sl (K (91 + 2 * b)) (K (92 + 2 * b)) (nI (mnS (st + i) sl)) (nI c) (nI i) g = _
      unfold s_Ways_movesDone_50
      rw [show hI g 1 16 = K 187 from StP_at Xg.1.1.1 (by decide) (show pl 187 = (0, 16) by decide), ek, if_pos (Int32.le_refl _)]
      rfl
    | succ q ih =>
      intro i c g hi hc E
      have Xg := TX_gn X E
      obtain ⟨mv, hmv, emv, imv⟩ := Rg_plan rg (show i < 40 by omega)
      have e16 : hI g 1 16 = nI k := (StP_at Xg.1.1.1 (by decide) (show pl 187 = (0, 16) by decide)).trans ek
      have e9 : hI g 9 i = nI mv := (StP_at Xg.1.1.1 (by omega) (pl_plan i (by omega))).trans emv
      have ms := mnS_e (st + i) sl
      have stp : s_Ways_movesDone_50 (nI st) sl (K (91 + 2 * b)) (K (92 + 2 * b)) (nI (mnS (st + i) sl)) (nI c) (nI i) g = if 143 ≤ st + i then some (.inr (nI i, g)) else match toC c mv with
          | none => some (.inr (nI i, g))
          | some t => if mayG K mv (fa (mk pF K) (td0 (tin τ K) (mk pF K)) (K (41 + c)) (mnS (st + i) sl)) (K (91 + 2 * b)) = true then ((s_Ways_isOpen (nI t) (nI (mnS (st + i + 1) sl)) (K (92 + 2 * b)) g).bind fun u5 => if u5.1 = 0 then some (.inr (nI i, u5.2)) else some (.inl (nI st, sl, K (91 + 2 * b), K (92 + 2 * b), nI (mnS (st + i + 1) sl), nI t, nI (i + 1), u5.2))) else some (.inr (nI i, g)) := by
        unfold s_Ways_movesDone_50 s_Ways_movesDone_99 s_Ways_movesDone_162
        rw [e16, if_neg (by rw [nI_leI (by omega) (by omega)]; omega), ib_nI (by omega) (by decide), show ix (nI i) = i from nI_clamp (by omega), e9, p_cellBy hc hmv, Option.bind_some, nI_add]
        by_cases z : 143 ≤ st + i
        · rw [if_pos (by rw [show (143 : Int32) = nI 143 from rfl, nI_leI (by decide) (by omega)]; exact z), if_pos z]
          rfl
        · rw [if_neg (by rw [show (143 : Int32) = nI 143 from rfl, nI_leI (by decide) (by omega)]; exact z), if_neg z]
          cases ht : toC c mv with
          | none =>
            show (if (-1 : Int32) = -1 then _ else _) = _
            rw [if_pos rfl]
            rfl
          | some t =>
            have tl := toC_lt hc ht
            show (if nI t = -1 then _ else _) = _
            rw [if_neg (by
              intro y
              have : nI t < 0 := by rw [y]; decide
              exact nI_pos (by omega) this), ib_nI hc (by decide), show ix (nI c) = c from nI_clamp (by omega), p_kindC Xg.1.1.1 hc, p_flowOf Xg.1.1.1 rg Xg.2.2 ms.1, Option.bind_some, nI_1, p_slipped (by omega), Option.bind_some, p_canMove Xg.1.1.1 hmv, Option.bind_some, nI_1]
            by_cases y : mayG K mv (fa (mk pF K) (td0 (tin τ K) (mk pF K)) (K (41 + c)) (mnS (st + i) sl)) (K (91 + 2 * b)) = true
            · rw [if_pos y]
              show (if (1 : Int32) = 0 then _ else _) = (if mayG K mv (fa (mk pF K) (td0 (tin τ K) (mk pF K)) (K (41 + c)) (mnS (st + i) sl)) (K (91 + 2 * b)) = true then _ else _)
              rw [if_neg (by decide), if_pos y]
              rfl
            · rw [if_neg y, if_pos rfl]
              show _ = (if mayG K mv (fa (mk pF K) (td0 (tin τ K) (mk pF K)) (K (41 + c)) (mnS (st + i) sl)) (K (91 + 2 * b)) = true then _ else _)
              rw [if_neg y]
              rfl
      have ed : dnF (tin τ K) K b st sl (q + 1) i c = match beh (tin τ K) K b c (st + i) mv sl with
          | none => i
          | some t => dnF (tin τ K) K b st sl q (i + 1) t := by
        rw [dnF, imv]
      rw [ed]
      unfold beh
      by_cases z : 143 ≤ st + i
      · rw [if_pos z] at stp
        refine ⟨g, ?_, E⟩
        rw [lp_inr stp]
        cases toC c mv with
        | none => rfl
        | some t =>
          show _ = some (nI (match (if st + i + 1 < 144 then _ else none : Option Nat) with | none => i | some t => _), g)
          rw [if_neg (by omega)]
      · rw [if_neg z] at stp
        cases ht : toC c mv with
        | none =>
          rw [ht] at stp
          exact ⟨g, lp_inr stp, E⟩
        | some t =>
          have tl := toC_lt hc ht
          rw [ht] at stp
          have stp : s_Ways_movesDone_50 (nI st) sl (K (91 + 2 * b)) (K (92 + 2 * b)) (nI (mnS (st + i) sl)) (nI c) (nI i) g = if mayG K mv (fa (mk pF K) (td0 (tin τ K) (mk pF K)) (K (41 + c)) (mnS (st + i) sl)) (K (91 + 2 * b)) = true then ((s_Ways_isOpen (nI t) (nI (mnS (st + i + 1) sl)) (K (92 + 2 * b)) g).bind fun u5 => if u5.1 = 0 then some (.inr (nI i, u5.2)) else some (.inl (nI st, sl, K (91 + 2 * b), K (92 + 2 * b), nI (mnS (st + i + 1) sl), nI t, nI (i + 1), u5.2))) else some (.inr (nI i, g)) := stp
          show ∃ h1, _ = some (nI (match (if st + i + 1 < 144 then (if (mayG K mv (fa (mk pF K) (td0 (tin τ K) (mk pF K)) (K (41 + c)) (mnS (st + i) sl)) (K (91 + 2 * b)) && canB (tin τ K) K b t (mnS (st + i + 1) sl)) = true then some t else none) else none : Option Nat) with | none => i | some t => dnF (tin τ K) K b st sl q (i + 1) t), h1) ∧ eqO sGn h h1
          rw [if_pos (by omega)]
          by_cases y : mayG K mv (fa (mk pF K) (td0 (tin τ K) (mk pF K)) (K (41 + c)) (mnS (st + i) sl)) (K (91 + 2 * b)) = true
          · obtain ⟨g2, a1, a2⟩ := p_isOpen (b := b) Xg tl (mnS_e (st + i + 1) sl).1
            rw [if_pos y, a1, Option.bind_some] at stp
            rw [y, Bool.true_and]
            by_cases x : canB (tin τ K) K b t (mnS (st + i + 1) sl) = true
            · rw [x] at stp ⊢
              have stp : s_Ways_movesDone_50 (nI st) sl (K (91 + 2 * b)) (K (92 + 2 * b)) (nI (mnS (st + i) sl)) (nI c) (nI i) g = some (.inl (nI st, sl, K (91 + 2 * b), K (92 + 2 * b), nI (mnS (st + (i + 1)) sl), nI t, nI (i + 1), g2)) := stp
              rw [lp_inl stp]
              exact ih (i + 1) t g2 (by omega) tl (eqO_trans E a2)
            · have x : canB (tin τ K) K b t (mnS (st + i + 1) sl) = false := by
                cases hx : canB (tin τ K) K b t (mnS (st + i + 1) sl)
                · rfl
                · exact absurd hx x
              rw [x] at stp ⊢
              have stp : s_Ways_movesDone_50 (nI st) sl (K (91 + 2 * b)) (K (92 + 2 * b)) (nI (mnS (st + i) sl)) (nI c) (nI i) g = some (.inr (nI i, g2)) := stp
              exact ⟨g2, lp_inr stp, eqO_trans E a2⟩
          · rw [if_neg y] at stp
            have y : mayG K mv (fa (mk pF K) (td0 (tin τ K) (mk pF K)) (K (41 + c)) (mnS (st + i) sl)) (K (91 + 2 * b)) = false := by
              cases hx : mayG K mv (fa (mk pF K) (td0 (tin τ K) (mk pF K)) (K (41 + c)) (mnS (st + i) sl)) (K (91 + 2 * b))
              · rfl
              · exact absurd hx y
            rw [y]
            exact ⟨g, lp_inr stp, E⟩
  have e7 : hI h 7 b = K (91 + 2 * b) := StP_at X.1.1.1 (by omega) (pl_pace b hb)
  have e8 : hI h 8 b = K (92 + 2 * b) := StP_at X.1.1.1 (by omega) (pl_bear b hb)
  obtain ⟨g, a1, a2⟩ := p_isOpen (b := b) X hc (mnS_e st sl).1
  unfold s_Ways_movesDone dnO
  rw [ib_nI hb (by decide), ib_nI hb (by decide), show ix (nI b) = b from nI_clamp (by omega), p_slipped (by omega), Option.bind_some, e7, e8, a1, Option.bind_some, ik]
  cases hx : canB (tin τ K) K b c (mnS st sl) with
  | false => exact ⟨g, rfl, a2⟩
  | true => exact key k 0 c g (by omega) hc a2
