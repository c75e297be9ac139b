/-! bounds: nothing overflows -/
def na (v : Int32) : Nat := v.toInt.natAbs
def nz (v : Int64) : Nat := v.toInt.natAbs
theorem na_add {a b : Int32} {A B : Nat} (ha : na a ≤ A) (hb : na b ≤ B) (h : A + B < 2147483648) : (a + b).toInt = a.toInt + b.toInt ∧ na (a + b) ≤ A + B := by
  unfold na at *
  rw [Int32.toInt_add, Int.bmod_eq_of_le (by omega) (by omega)]
  exact ⟨rfl, by omega⟩
theorem na_sub {a b : Int32} {A B : Nat} (ha : na a ≤ A) (hb : na b ≤ B) (h : A + B < 2147483648) : (a - b).toInt = a.toInt - b.toInt ∧ na (a - b) ≤ A + B := by
  unfold na at *
  rw [Int32.toInt_sub, Int.bmod_eq_of_le (by omega) (by omega)]
  exact ⟨rfl, by omega⟩
theorem na_mul {a b : Int32} {A B : Nat} (ha : na a ≤ A) (hb : na b ≤ B) (h : A * B < 2147483648) : (a * b).toInt = a.toInt * b.toInt ∧ na (a * b) ≤ A * B := by
  unfold na at *
  have e : (a.toInt * b.toInt).natAbs ≤ A * B := by rw [Int.natAbs_mul]; exact Nat.mul_le_mul ha hb
  rw [Int32.toInt_mul, Int.bmod_eq_of_le (by omega) (by omega)]
  exact ⟨rfl, e⟩
theorem na_neg {a : Int32} {A : Nat} (ha : na a ≤ A) (h : A < 2147483648) : (-a).toInt = -a.toInt ∧ na (-a) ≤ A := by
  unfold na at *
  rw [Int32.toInt_neg, Int.bmod_eq_of_le (by omega) (by omega)]
  exact ⟨rfl, by omega⟩
theorem na_div {a b : Int32} {A B : Nat} (ha : na a ≤ A) (hb : B ≤ na b) (h : b ≠ -1) (hB : 0 < B) : (a / b).toInt = a.toInt.tdiv b.toInt ∧ na (a / b) ≤ A / B := by
  unfold na at *
  rw [Int32.toInt_div_of_ne_right a b h]
  refine ⟨rfl, ?_⟩
  rw [Int.natAbs_tdiv]
  exact Nat.le_trans (Nat.div_le_div_left hb hB) (Nat.div_le_div_right ha)
theorem nz_sub {a b : Int64} {A B : Nat} (ha : nz a ≤ A) (hb : nz b ≤ B) (h : A + B < 9223372036854775808) : (a - b).toInt = a.toInt - b.toInt ∧ nz (a - b) ≤ A + B := by
  unfold nz at *
  rw [Int64.toInt_sub, Int.bmod_eq_of_le (by omega) (by omega)]
  exact ⟨rfl, by omega⟩
theorem nz_mul {a b : Int64} {A B : Nat} (ha : nz a ≤ A) (hb : nz b ≤ B) (h : A * B < 9223372036854775808) : (a * b).toInt = a.toInt * b.toInt ∧ nz (a * b) ≤ A * B := by
  unfold nz at *
  have e : (a.toInt * b.toInt).natAbs ≤ A * B := by rw [Int.natAbs_mul]; exact Nat.mul_le_mul ha hb
  rw [Int64.toInt_mul, Int.bmod_eq_of_le (by omega) (by omega)]
  exact ⟨rfl, e⟩
theorem nz_div {a b : Int64} {A B : Nat} (ha : nz a ≤ A) (hb : B ≤ nz b) (h : b ≠ -1) (hB : 0 < B) : (a / b).toInt = a.toInt.tdiv b.toInt ∧ nz (a / b) ≤ A / B := by
  unfold nz at *
  rw [Int64.toInt_div_of_ne_right a b h]
  refine ⟨rfl, ?_⟩
  rw [Int.natAbs_tdiv]
  exact Nat.le_trans (Nat.div_le_div_left hb hB) (Nat.div_le_div_right ha)
theorem nz_32 (a : Int32) : nz a.toInt64 = na a := by unfold nz na; rw [Int32.toInt_toInt64]
theorem na_nI {n : Nat} (h : n < 2147483648) : na (nI n) = n := by unfold na; rw [nI_toInt h]; rfl
theorem na_le {v a b : Int32} {A : Nat} (h1 : a ≤ v) (h2 : v ≤ b) (ha : na a ≤ A) (hb : na b ≤ A) : na v ≤ A := by
  rw [Int32.le_iff_toInt_le] at h1 h2
  unfold na at *
  omega
theorem nI_div {a b : Nat} (ha : a < 2147483648) (hb : b < 2147483648) : nI a / nI b = nI (a / b) := by
  apply Int32.toInt_inj.mp
  have h1 : a / b ≤ a := Nat.div_le_self a b
  rw [Int32.toInt_div_of_ne_right _ _ (by
    intro z
    have : (nI b).toInt = (-1 : Int32).toInt := by rw [z]
    rw [nI_toInt hb, show (-1 : Int32).toInt = -1 by decide] at this
    omega), nI_toInt ha, nI_toInt hb, nI_toInt (by omega)]
  rw [Int.tdiv_eq_ediv_of_nonneg (by omega)]
  rfl
theorem nI_sub {a b : Nat} (h : b ≤ a) : nI a - nI b = nI (a - b) := by
  have : nI a = nI (a - b) + nI b := by rw [nI_add, Nat.sub_add_cancel h]
  rw [this, Int32.add_sub_cancel]
theorem nI_rem {a b : Nat} (ha : a < 2147483648) (hb : b < 2147483648) : z_rem (nI a) (nI b) = nI (a % b) := by
  unfold z_rem
  rw [nI_div ha hb, nI_mul, nI_sub (Nat.div_mul_le_self a b)]
  congr 1
  have := Nat.div_add_mod a b
  rw [Nat.mul_comm] at this
  omega
def wvX (x : Int32) : Int32 := if 2000 < x then -((x - 2000) * (4000 - x) / 1000) else x * (2000 - x) / 1000
theorem wvX_b0 : ∀ a, a < 64 → ∀ b, b < 64 → 64 * a + b < 4001 → na (wvX (nI (64 * a + b))) ≤ 1000 := by decide +kernel
theorem wvX_b (c : Nat) (hc : c < 4001) : na (wvX (nI c)) ≤ 1000 := by
  have := wvX_b0 (c / 64) (by omega) (c % 64) (by omega) (by omega)
  rwa [show 64 * (c / 64) + c % 64 = c by omega] at this
theorem wv_b {a b : Nat} (ha : a < b) (hb : b ≤ 2000) : na (wv (nI a) (nI b)) ≤ 1000 := by
  have e : wv (nI a) (nI b) = wvX (nI (4000 * a / b)) := by
    show wvX (4000 * nI a / nI b) = _
    rw [show (4000 : Int32) = nI 4000 from rfl, nI_mul, nI_div (by omega) (by omega)]
  rw [e]
  refine wvX_b _ (Nat.lt_of_le_of_lt ?_ (Nat.lt_succ_self 4000))
  exact Nat.div_le_of_le_mul (by rw [Nat.mul_comm b]; exact Nat.mul_le_mul_left _ (by omega))
theorem mnA_b {ht : Int32} {b c m : Nat} (h1 : na ht ≤ 500) (hb0 : 0 < b) (hb : b ≤ 2000) (hc : c < 2000) (hm : m < 1440) : na (mnA ht (nI b) (nI c) (nI m)) ≤ 500 := by
  unfold mnA
  rw [nI_add, nI_rem (by omega) (by omega)]
  exact (na_div (A := 500000) (B := 1000) (na_mul h1 (wv_b (Nat.mod_lt _ hb0) hb) (by decide)).2 (by decide) (by decide) (by decide)).2
theorem kf_moonN {K : Nat → Int32} (rg : Rg K) {e k : Nat} (he : e ≤ 1) (hk : k < 4) : na (mk pF K (6 + 12 * e + 3 * k)) ≤ 500 ∧ (∃ b, 60 ≤ b ∧ b ≤ 2000 ∧ mk pF K (7 + 12 * e + 3 * k) = nI b) ∧ ∃ c, c < 2000 ∧ mk pF K (8 + 12 * e + 3 * k) = nI c := by
  rw [kf_eq (by omega), kf_eq (by omega), kf_eq (by omega)]
  refine ⟨?_, ?_, ?_⟩
  · obtain ⟨h1, h2⟩ := Rg_int rg (j := 6 + 12 * e + 3 * k + 0) (by omega) (rj_moon e (by omega) k hk 0 (by decide))
    exact na_le h1 h2 (by decide) (by decide)
  · obtain ⟨h1, h2⟩ := Rg_per rg he hk
    obtain ⟨b, hb, e1⟩ := nI_of (x := K (7 + 12 * e + 3 * k)) (fun z => absurd (Int32.lt_of_le_of_lt h1 z) (by decide))
    rw [e1] at h1 h2 ⊢
    refine ⟨b, ?_, ?_, rfl⟩
    · exact (nI_leI (a := 60) (by decide) hb).mp h1
    · exact (nI_leI (b := 2000) hb (by decide)).mp h2
  · have := Rg_nat rg (j := 6 + 12 * e + 3 * k + 2) (b := 1999) (by omega) (rj_moon e (by omega) k hk 2 (by decide)) (by decide)
    rw [show 6 + 12 * e + 3 * k + 2 = 8 + 12 * e + 3 * k by omega] at this
    obtain ⟨c, hc, e1⟩ := this
    exact ⟨c, by omega, e1⟩
theorem td_b {K : Nat → Int32} (rg : Rg K) {e m : Nat} (he : e ≤ 1) (hm : m < 1440) : ∀ k, k ≤ 4 → na (td (mk pF K) e (nI m) k) ≤ 500 + 500 * k
  | 0, _ => by
    unfold td
    rw [kf_eq (by omega)]
    obtain ⟨h1, h2⟩ := Rg_int rg (j := 3 * e + 0) (by omega) (rj_sea e (by omega) 0 (by decide))
    exact na_le h1 h2 (by decide) (by decide)
  | k + 1, hk => by
    unfold td
    obtain ⟨h1, ⟨b, b1, b2, e1⟩, c, c1, e2⟩ := kf_moonN rg he (show k < 4 by omega)
    rw [e1, e2]
    refine Nat.le_trans (na_add (td_b rg he hm k (by omega)) (mnA_b h1 (by omega) b2 c1 hm) (by omega)).2 (by omega)
theorem Lv_b {K : Nat → Int32} (rg : Rg K) {e m : Nat} {w g : Int32} (he : e ≤ 1) (hm : m < 1440) (hw : na w ≤ 40) (hg : na (1013 - g) ≤ 100) : na (Lv (mk pF K) e (nI m) w g) ≤ 3000 := by
  unfold Lv
  rw [kf_eq (by omega), kf_eq (by omega)]
  obtain ⟨a1, a2⟩ := Rg_int rg (j := 3 * e + 1) (by omega) (rj_sea e (by omega) 1 (by decide))
  obtain ⟨b1, b2⟩ := Rg_int rg (j := 3 * e + 2) (by omega) (rj_sea e (by omega) 2 (by decide))
  have n1 : na (K (3 * e + 1)) ≤ 3 := na_le a1 a2 (by decide) (by decide)
  have n2 : na (K (3 * e + 2)) ≤ 5 := na_le b1 b2 (by decide) (by decide)
  have m1 := (na_mul n1 hg (by decide)).2
  have m2 := (na_mul n2 hw (by decide)).2
  have t := td_b rg he hm 4 (by decide)
  exact Nat.le_trans (na_add (na_add t m1 (by decide)).2 m2 (by decide)).2 (by decide)
theorem flA_b {K : Nat → Int32} (rg : Rg K) {m : Nat} {w g : Int32} (hm : m < 1440) (hw : na w ≤ 40) (hg : na (1013 - g) ≤ 100) : na (flA (mk pF K) (nI m) w g) ≤ 6000 := (na_sub (Lv_b rg (by decide) hm hw hg) (Lv_b rg (by decide) hm hw hg) (by decide)).2
theorem szI_b {v : Int32} {A : Nat} (h : na v ≤ A) (hA : A < 2147483648) : na (szI v) ≤ A := by
  unfold szI
  split
  · exact h
  · exact (na_neg h hA).2
theorem clp_b {v a b : Int32} {A : Nat} (ha : na a ≤ A) (hb : na b ≤ A) : na (clp v a b) ≤ A := by
  unfold clp
  by_cases h1 : v < a
  · rw [if_pos h1]; exact ha
  · rw [if_neg h1]
    by_cases h2 : b < v
    · rw [if_pos h2]; exact hb
    · rw [if_neg h2]; exact na_le (Int32.not_lt.mp h1) (Int32.not_lt.mp h2) ha hb
theorem kf_termB {K : Nat → Int32} (rg : Rg K) {i : Nat} (hi : i < 11) {A : Nat} (h1 : na (tmLo (nI i)) ≤ A) (h2 : na (tmHi (nI i)) ≤ A) : na (mk pF K (30 + i)) ≤ A := by
  rw [kf_eq (by omega)]
  obtain ⟨a1, a2⟩ := Rg_int rg (j := 30 + i) (by omega) (rj_term i hi)
  exact na_le a1 a2 h1 h2
theorem kf_mass {K : Nat → Int32} (rg : Rg K) : 1 ≤ mk pF K 32 := by
  rw [kf_eq (by decide)]
  exact (Rg_int rg (j := 30 + 2) (by decide) (rj_term 2 (by decide))).1
theorem gnF_b {K : Nat → Int32} (rg : Rg K) {fall flow tb : Int32} (h1 : na fall ≤ 6000) (h2 : na flow ≤ 2000) (h3 : na tb ≤ 20) : na (gnF (mk pF K) fall flow tb) ≤ 3000000 := by
  unfold gnF
  have k0 : na (mk pF K 30) ≤ 50 := kf_termB rg (i := 0) (by decide) (by decide) (by decide)
  have k1 : na (mk pF K 31) ≤ 50 := kf_termB rg (i := 1) (by decide) (by decide) (by decide)
  have k7 : na (mk pF K 37) ≤ 20 := kf_termB rg (i := 7) (by decide) (by decide) (by decide)
  have r : na (mk pF K 31 + mk pF K 37 * tb) ≤ 450 := (na_add k1 (na_mul k7 h3 (by decide)).2 (by decide)).2
  have z1 : nz (fall.toInt64 * (mk pF K 30).toInt64) ≤ 300000 := (nz_mul (A := 6000) (B := 50) (by rw [nz_32]; exact h1) (by rw [nz_32]; exact k0) (by decide)).2
  have z2 : nz (flow.toInt64 * (szI flow).toInt64) ≤ 4000000 := (nz_mul (A := 2000) (B := 2000) (by rw [nz_32]; exact h2) (by rw [nz_32]; exact szI_b h2 (by decide)) (by decide)).2
  have z3 := (nz_mul (B := 450) z2 (by rw [nz_32]; exact r) (by decide)).2
  have z4 := (nz_div (B := 1000) (b := 1000) z3 (by decide) (by decide) (by decide)).2
  have z5 := (nz_sub z1 z4 (by decide)).2
  have hm := kf_mass rg
  have m1 : (1 : Int) ≤ (mk pF K 32).toInt64.toInt := by
    rw [Int32.toInt_toInt64]
    rw [Int32.le_iff_toInt_le] at hm
    exact hm
  have z6 := (nz_div (B := 1) z5 (b := (mk pF K 32).toInt64) (by unfold nz; omega) (by
    intro z
    rw [z] at m1
    exact absurd m1 (by decide)) (by decide)).2
  unfold na
  rw [Int64.toInt_toInt32]
  unfold nz at z6
  rw [Int.bmod_eq_of_le (by omega) (by omega)]
  omega
theorem gn_b {T : TF} {K : Nat → Int32} (rg : Rg K) {m : Nat} {w g tb f : Int32} (hm : m < 1440) (hw : na w ≤ 40) (hg : na (1013 - g) ≤ 100) (ht : na tb ≤ 20) (hf : na f ≤ 2000) : na (gn T (mk pF K) w g tb (nI m) f) ≤ 3000000 := by
  unfold gn
  split
  · exact Nat.le_trans (clp_b (A := 500) (by decide) (by decide)) (by decide)
  · exact gnF_b rg (flA_b rg hm hw hg) hf ht
theorem fw_b {T : TF} {K : Nat → Int32} (rg : Rg K) {W : Nat → Int32} {g tb : Int32} : ∀ m, na (fw T (mk pF K) W g tb m) ≤ 2000
  | 0 => by
    unfold fw
    exact Nat.le_trans (kf_termB (A := 1000) rg (i := 4) (by decide) (by decide) (by decide)) (by decide)
  | m + 1 => by
    unfold fw
    exact clp_b (by decide) (by decide)
