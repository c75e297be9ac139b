/-! lost: shares as whole numbers -/
def l6 (n : Nat) : Int64 := Int64.ofNat n
theorem l6_add (a b : Nat) : l6 a + l6 b = l6 (a + b) := (Int64.ofNat_add a b).symm
theorem l6_mul (a b : Nat) : l6 a * l6 b = l6 (a * b) := (Int64.ofNat_mul a b).symm
theorem l6_toInt {n : Nat} (h : n < 9223372036854775808) : (l6 n).toInt = n := lg_ofNat_toInt h
theorem l6_eq {a b : Nat} (ha : a < 9223372036854775808) (hb : b < 9223372036854775808) : l6 a = l6 b ↔ a = b := by
  rw [← Int64.toInt_inj, l6_toInt ha, l6_toInt hb]
  omega
theorem l6_div {a b : Nat} (ha : a < 9223372036854775808) (hb : b < 9223372036854775808) : l6 a / l6 b = l6 (a / b) := by
  apply Int64.toInt_inj.mp
  have h1 : a / b ≤ a := Nat.div_le_self a b
  rw [Int64.toInt_div_of_ne_right _ _ (by
    intro z
    have : (l6 b).toInt = (-1 : Int64).toInt := by rw [z]
    rw [l6_toInt hb, show (-1 : Int64).toInt = -1 by decide] at this
    omega), l6_toInt ha, l6_toInt hb, l6_toInt (by omega), Int.tdiv_eq_ediv_of_nonneg (by omega)]
  rfl
theorem l6_sub {a b : Nat} (h : b ≤ a) : l6 a - l6 b = l6 (a - b) := by
  have : l6 a = l6 (a - b) + l6 b := by rw [l6_add, Nat.sub_add_cancel h]
  rw [this, Int64.add_sub_cancel]
theorem l6_rem {a b : Nat} (ha : a < 9223372036854775808) (hb : b < 9223372036854775808) : z_lrem (l6 a) (l6 b) = l6 (a % b) := by
  unfold z_lrem
  rw [l6_div ha hb, l6_mul, l6_sub (Nat.div_mul_le_self a b)]
  congr 1
  have := Nat.div_add_mod a b
  rw [Nat.mul_comm] at this
  omega
theorem l6_32 {n : Nat} (h : n < 2147483648) : (nI n).toInt64 = l6 n := by
  apply Int64.toInt_inj.mp
  rw [Int32.toInt_toInt64, nI_toInt h, l6_toInt (by omega)]
theorem l6_le {a b : Nat} (ha : a < 9223372036854775808) (hb : b < 9223372036854775808) : l6 a ≤ l6 b ↔ a ≤ b := by
  rw [Int64.le_iff_toInt_le, l6_toInt ha, l6_toInt hb]
  omega
theorem l6_lt {a b : Nat} (ha : a < 9223372036854775808) (hb : b < 9223372036854775808) : l6 a < l6 b ↔ a < b := by
  rw [Int64.lt_iff_toInt_lt, l6_toInt ha, l6_toInt hb]
  omega
def ad (g : Nat → Nat) (i v : Nat) : Nat → Nat := fun j => if j = i then g j + v else g j
def ldR (K : Nat → Int32) (q : Nat) : Nat := if K (41 + q) = 0 then 51 else q
def ldO (K : Nat → Int32) (o : Option Nat) (d : Nat) : Nat := match o with
  | none => d
  | some q => ldR K q
theorem ldO_lt {K : Nat → Int32} {c mv d : Nat} (hc : c < 50) (hd : d < 52) : ldO K (toC c mv) d < 52 := by
  cases h : toC c mv with
  | none => exact hd
  | some q =>
    have := toC_lt hc h
    show ldR K q < 52
    unfold ldR
    split <;> omega
/-- how much of a hundred is carried on -/
def cr (f : Int32) : Nat := min 100 (ix (szI f) / 10)
def sp1 (K : Nat → Int32) (f : Int32) (c x : Nat) (g : Nat → Nat) : Nat → Nat := ad (ad (ad g (ldO K (toC c (if f ≤ 0 then 2 else 1)) 50) (x * 2 * cr f)) (ldO K (toC c 3) 51) (x * (100 - cr f))) (ldO K (toC c 4) 51) (x * (100 - cr f))
def spF (T : TF) (K : Nat → Int32) (m : Nat) (v : Nat → Nat) : Nat → Nat → Nat
  | 0 => fun j => if j < 50 then 0 else v j * 200
  | c + 1 => if v c = 0 then spF T K m v c else sp1 K (fa (mk pF K) (td0 T (mk pF K)) (K (41 + c)) m) c (v c) (spF T K m v c)
def vcF (T : TF) (K : Nat → Int32) (cell step : Nat) : Nat → Nat → Nat
  | 0 => fun j => if j = cell then 1 else 0
  | k + 1 => spF T K (10 * (step + k)) (vcF T K cell step k) 50
theorem smN_ad {g : Nat → Nat} {i v : Nat} : ∀ n, smN (ad g i v) n = smN g n + (if i < n then v else 0)
  | 0 => rfl
  | n + 1 => by
    unfold smN
    rw [smN_ad n]
    unfold ad
    by_cases h : n = i
    · subst h
      rw [if_pos rfl, if_neg (by omega), if_pos (by omega)]
      omega
    · rw [if_neg h]
      by_cases h2 : i < n
      · rw [if_pos h2, if_pos (by omega)]; omega
      · rw [if_neg h2, if_neg (by omega)]; omega
theorem cr_le (f : Int32) : cr f ≤ 100 := Nat.min_le_left _ _
theorem sp1_sum {K : Nat → Int32} {f : Int32} {c x : Nat} {g : Nat → Nat} (hc : c < 50) : smN (sp1 K f c x g) 52 = smN g 52 + 200 * x := by
  unfold sp1
  rw [smN_ad, smN_ad, smN_ad, if_pos (ldO_lt hc (by decide)), if_pos (ldO_lt hc (by decide)), if_pos (ldO_lt hc (by decide))]
  have h := cr_le f
  have e1 : x * 2 * cr f = 2 * (x * cr f) := by rw [Nat.mul_comm x 2, Nat.mul_assoc]
  have e2 : x * (100 - cr f) = x * 100 - x * cr f := Nat.mul_sub x 100 (cr f)
  have e3 : x * cr f ≤ x * 100 := Nat.mul_le_mul_left x h
  omega
theorem spF_sum {T : TF} {K : Nat → Int32} {m : Nat} {v : Nat → Nat} : ∀ c, c ≤ 50 → smN (spF T K m v c) 52 = 200 * (v 50 + v 51) + 200 * smN v c
  | 0, _ => by
    have z : ∀ n, n ≤ 50 → smN (spF T K m v 0) n = 0 := fun n hn => smN_0 n (fun i hi => if_pos (by omega))
    show smN (spF T K m v 0) 50 + spF T K m v 0 50 + spF T K m v 0 51 = _
    rw [z 50 (Nat.le_refl _)]
    show 0 + v 50 * 200 + v 51 * 200 = 200 * (v 50 + v 51) + 200 * 0
    omega
  | c + 1, hc => by
    unfold spF
    by_cases h : v c = 0
    · rw [if_pos h, spF_sum c (by omega)]
      show _ = _ + 200 * (smN v c + v c)
      omega
    · rw [if_neg h, sp1_sum (by omega), spF_sum c (by omega)]
      show _ = _ + 200 * (smN v c + v c)
      omega
theorem smN_50 (v : Nat → Nat) : smN v 52 = smN v 50 + (v 50 + v 51) := by
  show smN v 50 + v 50 + v 51 = _
  omega
theorem vcF_sum {T : TF} {K : Nat → Int32} {cell step : Nat} (hc : cell < 50) : ∀ k, smN (vcF T K cell step k) 52 = 200 ^ k
  | 0 => by
    have e : vcF T K cell step 0 = ad (fun _ => 0) cell 1 := by
      funext j
      unfold vcF ad
      by_cases h : j = cell
      · simp [h]
      · simp [h]
    rw [e, smN_ad, if_pos (by omega), smN_0 52 (fun _ _ => rfl)]
  | k + 1 => by
    unfold vcF
    rw [spF_sum 50 (Nat.le_refl _), ← Nat.mul_add, Nat.add_comm (_ + _) (smN _ 50), ← smN_50, vcF_sum hc k, Nat.pow_succ, Nat.mul_comm]
theorem smN_at {v : Nat → Nat} : ∀ n i, i < n → v i ≤ smN v n
  | 0, _, h => absurd h (by omega)
  | n + 1, i, h => by
    unfold smN
    by_cases e : i = n
    · rw [e]; omega
    · have := smN_at (v := v) n i (by omega)
      omega
theorem vcF_b {T : TF} {K : Nat → Int32} {cell step : Nat} (hc : cell < 50) {k : Nat} (hk : k ≤ 6) {j : Nat} (hj : j < 52) : vcF T K cell step k j ≤ 200 ^ k ∧ (200 : Nat) ^ k ≤ 64000000000000 := by
  refine ⟨?_, ?_⟩
  · have := smN_at (v := vcF T K cell step k) 52 j hj
    rw [vcF_sum hc k] at this
    exact this
  · have : (200 : Nat) ^ k ≤ 200 ^ 6 := Nat.pow_le_pow_right (by decide) hk
    exact Nat.le_trans this (by decide)
/-- what the answer is -/
def lsA (a k : Nat) : Nat := a * 1000000 / 200 ^ k
def aLost (x1 x2 x3 x4 : Int32) (T : TF) (K : Nat → Int32) : Int32 := if wi x1 0 49 = 0 then -1 else if wi x2 0 143 = 0 then -1 else if wi x3 0 6 = 0 then -1 else if wi x4 0 51 = 0 then -1 else if 144 ≤ ix x2 + ix x3 then -1 else if K (41 + ix x1) = 0 then -1 else Int64.toInt32 (l6 (lsA (vcF T K (ix x1) (ix x2) (ix x3) (ix x4)) (ix x3)))
theorem cr_C {f : Int32} (hf : na f ≤ 10000) : z_min 100 (szI f / 10) = nI (cr f) ∧ cr f = min 100 (ix (szI f) / 10) := by
  have h0 : ¬ szI f < 0 := by
    unfold szI
    by_cases z : 0 ≤ f
    · rw [if_pos z]; exact Int32.not_lt.mpr z
    · rw [if_neg z]
      have := (na_neg hf (by decide)).1
      rw [Int32.not_le, Int32.lt_iff_toInt_lt, show (0 : Int32).toInt = 0 by decide] at z
      rw [Int32.not_lt, Int32.le_iff_toInt_le, this, show (0 : Int32).toInt = 0 by decide]
      omega
  obtain ⟨a, ha, e⟩ := nI_of h0
  have e2 : ix (szI f) = a := by rw [e]; exact nI_clamp ha
  refine ⟨?_, rfl⟩
  unfold cr z_min
  rw [e2, e, show (10 : Int32) = nI 10 from rfl, nI_div (by omega) (by decide), show (100 : Int32) = nI 100 from rfl]
  by_cases z : a / 10 < 100
  · rw [if_pos (by rw [nI_ltI (by omega) (by decide)]; exact z), Nat.min_eq_right (by omega)]
  · rw [if_neg (by rw [nI_ltI (by omega) (by decide)]; exact z), Nat.min_eq_left (by omega)]
theorem fa_b {T : TF} {K : Nat → Int32} (rg : Rg K) (k : Int32) (m : Nat) : na (fa (mk pF K) (td0 T (mk pF K)) k m) ≤ 10000 := by
  have b : ∀ m, na (td0 T (mk pF K) m) ≤ 2000 := fun m => fw_b rg m
  unfold fa
  by_cases h0 : k = 0
  · rw [if_pos h0]; decide
  rw [if_neg h0]
  by_cases h2 : k = 2
  · rw [if_pos h2]
    exact Nat.le_trans (na_div (A := 2000) (B := 1) (na_neg (b _) (by decide)).2 (by decide) (by decide) (by decide)).2 (by decide)
  rw [if_neg h2]
  by_cases h3 : k = 3
  · rw [if_pos h3]
    exact Nat.le_trans (na_div (A := 2000) (B := 1) (b _) (by decide) (by decide) (by decide)).2 (by decide)
  rw [if_neg h3]
  by_cases h4 : k = 4
  · rw [if_pos h4]
    exact Nat.le_trans (na_div (A := 10000) (B := 1) (na_mul (A := 2000) (B := 5) (b _) (by decide) (by decide)).2 (by decide) (by decide) (by decide)).2 (by decide)
  rw [if_neg h4]
  exact Nat.le_trans (b _) (by decide)
