/-! the law: what stands on the tape, token by token -/
def soB (b : Nat) : Nat := if 97 ≤ b ∧ b ≤ 122 then 1 else if 48 ≤ b ∧ b ≤ 57 then 2 else 3
def skG (y : Nat → Nat) : Nat → Nat → Nat
  | 0, a => a
  | q + 1, a => if y a = 32 then skG y q (a + 1) else a
def sk (y : Nat → Nat) (n a : Nat) : Nat := skG y (n - a) a
theorem sk_go {y : Nat → Nat} {n a : Nat} (h : a < n) (e : y a = 32) : sk y n a = sk y n (a + 1) := by
  unfold sk
  rw [show n - a = (n - (a + 1)) + 1 by omega, skG, if_pos e]
theorem sk_stop {y : Nat → Nat} {n a : Nat} (h : n ≤ a ∨ ¬ y a = 32) : sk y n a = a := by
  unfold sk
  rcases (show n - a = 0 ∨ n - a = (n - a - 1) + 1 by omega) with e | e
  · rw [e]; rfl
  · rw [e, skG, if_neg (by rcases h with h | h; omega; exact h)]
theorem sk_b {y : Nat → Nat} {n : Nat} : ∀ (q a : Nat), a + q = n → a ≤ sk y n a ∧ sk y n a ≤ n ∧ (sk y n a < n → ¬ y (sk y n a) = 32)
  | 0, a, h => by rw [sk_stop (Or.inl (by omega))]; exact ⟨Nat.le_refl _, by omega, fun z => absurd z (by omega)⟩
  | q + 1, a, h => by
    by_cases e : y a = 32
    · rw [sk_go (by omega) e]
      have := sk_b (y := y) (n := n) q (a + 1) (by omega)
      exact ⟨by omega, this.2⟩
    · rw [sk_stop (Or.inr e)]
      exact ⟨Nat.le_refl _, by omega, fun _ => e⟩
def rnG (y : Nat → Nat) (s : Nat) : Nat → Nat → Nat
  | 0, a => a
  | q + 1, a => if soB (y a) = s then rnG y s q (a + 1) else a
def rn (y : Nat → Nat) (n s a : Nat) : Nat := rnG y s (n - a) a
theorem rn_go {y : Nat → Nat} {n s a : Nat} (h : a < n) (e : soB (y a) = s) : rn y n s a = rn y n s (a + 1) := by
  unfold rn
  rw [show n - a = (n - (a + 1)) + 1 by omega, rnG, if_pos e]
theorem rn_stop {y : Nat → Nat} {n s a : Nat} (h : n ≤ a ∨ ¬ soB (y a) = s) : rn y n s a = a := by
  unfold rn
  rcases (show n - a = 0 ∨ n - a = (n - a - 1) + 1 by omega) with e | e
  · rw [e]; rfl
  · rw [e, rnG, if_neg (by rcases h with h | h; omega; exact h)]
theorem rn_b {y : Nat → Nat} {n s : Nat} : ∀ (q a : Nat), a + q = n → a ≤ rn y n s a ∧ rn y n s a ≤ n ∧ ∀ i, a ≤ i → i < rn y n s a → soB (y i) = s
  | 0, a, h => by rw [rn_stop (Or.inl (by omega))]; exact ⟨Nat.le_refl _, by omega, fun i h1 h2 => absurd h2 (by omega)⟩
  | q + 1, a, h => by
    by_cases e : soB (y a) = s
    · rw [rn_go (by omega) e]
      have := rn_b (y := y) (n := n) (s := s) q (a + 1) (by omega)
      refine ⟨by omega, this.2.1, fun i h1 h2 => ?_⟩
      rcases (show i = a ∨ a + 1 ≤ i by omega) with z | z
      · rw [z]; exact e
      · exact this.2.2 i z h2
    · rw [rn_stop (Or.inr e)]
      exact ⟨Nat.le_refl _, by omega, fun i h1 h2 => absurd h2 (by omega)⟩
def enT (y : Nat → Nat) (n f : Nat) : Nat := if f < n then (if soB (y f) = 3 then f + 1 else rn y n (soB (y f)) (f + 1)) else f
def tF (y : Nat → Nat) (n : Nat) : Nat → Nat
  | 0 => sk y n 0
  | k + 1 => sk y n (enT y n (tF y n k))
def tE (y : Nat → Nat) (n k : Nat) : Nat := enT y n (tF y n k)
def tS (y : Nat → Nat) (n k : Nat) : Nat := if tF y n k < n then soB (y (tF y n k)) else 0
theorem soB_e (b : Nat) : soB b = 1 ∨ soB b = 2 ∨ soB b = 3 := by
  unfold soB
  split
  · exact Or.inl rfl
  · split
    · exact Or.inr (Or.inl rfl)
    · exact Or.inr (Or.inr rfl)
theorem enT_b {y : Nat → Nat} {n f : Nat} (h : f ≤ n) : f ≤ enT y n f ∧ enT y n f ≤ n ∧ (f < n → f < enT y n f) := by
  unfold enT
  by_cases z : f < n
  · rw [if_pos z]
    by_cases w : soB (y f) = 3
    · rw [if_pos w]; omega
    · rw [if_neg w]
      have := rn_b (y := y) (n := n) (s := soB (y f)) (n - (f + 1)) (f + 1) (by omega)
      omega
  · rw [if_neg z]; omega
theorem tF_b {y : Nat → Nat} {n : Nat} : ∀ k, tF y n k ≤ n ∧ (tF y n k < n → ¬ y (tF y n k) = 32)
  | 0 => (sk_b (y := y) (n := n) (n - 0) 0 (by omega)).2
  | k + 1 => by
    have h1 := (enT_b (y := y) (tF_b (y := y) (n := n) k).1).2.1
    exact (sk_b (y := y) (n := n) (n - enT y n (tF y n k)) (enT y n (tF y n k)) (by omega)).2
theorem tF_up {y : Nat → Nat} {n k : Nat} : tE y n k ≤ tF y n (k + 1) := by
  have h1 := (enT_b (y := y) (tF_b (y := y) (n := n) k).1).2.1
  exact (sk_b (y := y) (n := n) (n - enT y n (tF y n k)) (enT y n (tF y n k)) (by omega)).1
theorem tE_b {y : Nat → Nat} {n k : Nat} : tF y n k ≤ tE y n k ∧ tE y n k ≤ n ∧ (tF y n k < n → tF y n k < tE y n k) := enT_b (tF_b k).1
theorem tF_run {y : Nat → Nat} {n k : Nat} (h : tF y n k < n) (i : Nat) (h1 : tF y n k ≤ i) (h2 : i < tE y n k) : soB (y i) = soB (y (tF y n k)) := by
  unfold tE enT at h2
  rw [if_pos h] at h2
  by_cases w : soB (y (tF y n k)) = 3
  · rw [if_pos w] at h2
    rw [show i = tF y n k by omega]
  · rw [if_neg w] at h2
    rcases (show i = tF y n k ∨ tF y n k + 1 ≤ i by omega) with z | z
    · rw [z]
    · exact (rn_b (y := y) (n := n) (s := soB (y (tF y n k))) (n - (tF y n k + 1)) (tF y n k + 1) (by omega)).2.2 i z h2
/-- words -/
def wdS : List (List Nat) := [[103, 97, 105, 110, 115], [119, 104, 105, 116, 101], [105, 102], [111, 114], [97, 110, 100], [110, 111, 116], [102, 97, 108, 108], [102, 108, 111, 119], [109, 105, 110, 117, 116, 101], [119, 105, 110, 100], [103, 108, 97, 115, 115], [107, 105, 110, 100], [116, 117, 114, 98, 105, 110, 101, 115]]
def tW (y : Nat → Nat) (f e : Nat) : List Nat := (List.range (e - f)).map fun i => y (f + i)
def wcF (l : List Nat) : List (List Nat) → Nat → Nat
  | [], _ => 0
  | w :: ws, j => if l = w then j else wcF l ws (j + 1)
def vrG (y : Nat → Nat) (f : Nat) : Nat → Nat
  | 0 => 0
  | i + 1 => if 1000000 < vrG y f i then vrG y f i else 10 * vrG y f i + (y (f + i) - 48)
def tC (y : Nat → Nat) (n k : Nat) : Nat := if tS y n k = 0 then 0 else if tS y n k = 1 then wcF (tW y (tF y n k) (tE y n k)) wdS 1 else if tS y n k = 2 then 50 else 100 + y (tF y n k)
def tV (y : Nat → Nat) (n k : Nat) : Nat := if tS y n k = 2 then vrG y (tF y n k) (tE y n k - tF y n k) else 0
theorem wcF_b (l : List Nat) : ∀ (ws : List (List Nat)) (j : Nat), wcF l ws j ≤ j + ws.length - 1
  | [], j => Nat.zero_le _
  | w :: ws, j => by
    rw [wcF]
    have := wcF_b l ws (j + 1)
    rw [List.length_cons]
    split <;> omega
theorem tS_e (y : Nat → Nat) (n k : Nat) : (tS y n k = 0 ∧ tF y n k = n) ∨ (tF y n k < n ∧ tS y n k = soB (y (tF y n k)) ∧ (tS y n k = 1 ∨ tS y n k = 2 ∨ tS y n k = 3)) := by
  have hb := (tF_b (y := y) (n := n) k).1
  unfold tS
  by_cases z : tF y n k < n
  · rw [if_pos z]; exact Or.inr ⟨z, rfl, soB_e _⟩
  · rw [if_neg z]; exact Or.inl ⟨rfl, by omega⟩
theorem tC_word {y : Nat → Nat} {n k : Nat} (h : tS y n k = 1) : tC y n k = wcF (tW y (tF y n k) (tE y n k)) wdS 1 := by
  unfold tC; rw [if_neg (by omega), if_pos h]
theorem tC_wordb {y : Nat → Nat} {n k : Nat} (h : tS y n k = 1) : tC y n k ≤ 13 := by
  rw [tC_word h]; exact wcF_b _ wdS 1
theorem tC_num {y : Nat → Nat} {n k : Nat} (h : tS y n k = 2) : tC y n k = 50 := by
  unfold tC; rw [if_neg (by omega), if_neg (by omega), if_pos h]
theorem tC_oth {y : Nat → Nat} {n k : Nat} (h : tS y n k = 3) : tC y n k = 100 + y (tF y n k) := by
  unfold tC; rw [if_neg (by omega), if_neg (by omega), if_neg (by omega)]
theorem tC_end {y : Nat → Nat} {n k : Nat} (h : tS y n k = 0) : tC y n k = 0 := by
  unfold tC; rw [if_pos h]
theorem tC_real {y : Nat → Nat} {n k : Nat} (h : ¬ tC y n k = 0) : tF y n k < n := by
  rcases tS_e y n k with z | z
  · exact absurd (tC_end z.1) h
  · exact z.1
/-- the class's tape -/
def TY (y : Nat → Nat) (n : Nat) (h : Hp) : Prop := n ≤ 400 ∧ hI h 45 1 = nI n ∧ ∀ i, i < n → y i < 256 ∧ hI h 46 i = nI (y i)
theorem TY_eq {y : Nat → Nat} {n : Nat} {h h2 : Hp} (T : TY y n h) (e1 : hI h2 45 = hI h 45) (e2 : hI h2 46 = hI h 46) : TY y n h2 := by
  unfold TY; rw [e1, e2]; exact T
theorem wi_bn {b lo hi : Nat} (h1 : b < 100000) (h2 : lo < 100000) (h3 : hi < 100000) : wi (nI b) (nI lo) (nI hi) = if lo ≤ b ∧ b ≤ hi then 1 else 0 := by
  unfold wi
  by_cases z : b < lo
  · rw [if_pos (by rw [nI_ltI (by omega) (by omega)]; exact z), if_neg (by omega)]
  · rw [if_neg (by rw [nI_ltI (by omega) (by omega)]; exact z)]
    by_cases w : hi < b
    · rw [if_pos (by rw [nI_ltI (by omega) (by omega)]; exact w), if_neg (by omega)]
    · rw [if_neg (by rw [nI_ltI (by omega) (by omega)]; exact w), if_pos (by omega)]
theorem p_sort39 {b : Nat} {h : Hp} (hb : b < 256) : s_Reader_sortAt_39 (nI b) h = some (nI (if 48 ≤ b ∧ b ≤ 57 then 2 else 3)) := by
  unfold s_Reader_sortAt_39 s_Reader_sortAt_55 s_Reader_sortAt_56
  rw [show (48 : Int32) = nI 48 from rfl, show (57 : Int32) = nI 57 from rfl]
  by_cases z : b < 48
  · rw [if_pos (by rw [nI_ltI (by omega) (by omega)]; exact z), if_neg (show ¬ (48 ≤ b ∧ b ≤ 57) by omega)]
    rfl
  · rw [if_neg (by rw [nI_ltI (by omega) (by omega)]; exact z)]
    by_cases w : 57 < b
    · rw [if_pos (by rw [nI_ltI (by omega) (by omega)]; exact w), if_neg (show ¬ (48 ≤ b ∧ b ≤ 57) by omega)]
      rfl
    · rw [if_neg (by rw [nI_ltI (by omega) (by omega)]; exact w), if_pos (show 48 ≤ b ∧ b ≤ 57 by omega)]
      rfl
theorem p_sortAt {y : Nat → Nat} {n a : Nat} {h : Hp} (T : TY y n h) (ha : a ≤ 400) : s_Reader_sortAt (nI a) h = some (nI (if a < n then soB (y a) else 0)) := by
  have hn := T.1
  unfold s_Reader_sortAt
  rw [T.2.1]
  by_cases z : a < n
  · obtain ⟨b1, b2⟩ := T.2.2 a z
    rw [if_pos (by rw [nI_ltI (by omega) (by omega)]; exact z), ib_nI (by omega) (by decide), show ix (nI a) = a from nI_clamp (by omega), b2, show (97 : Int32) = nI 97 from rfl, show (122 : Int32) = nI 122 from rfl, p_sort39 b1, if_pos z]
    unfold s_Reader_sortAt_56 soB
    by_cases v : y a < 97
    · rw [if_pos (by rw [nI_ltI (by omega) (by omega)]; exact v), if_neg (show ¬ (97 ≤ y a ∧ y a ≤ 122) by omega)]
    · rw [if_neg (by rw [nI_ltI (by omega) (by omega)]; exact v)]
      by_cases w : 122 < y a
      · rw [if_pos (by rw [nI_ltI (by omega) (by omega)]; exact w), if_neg (show ¬ (97 ≤ y a ∧ y a ≤ 122) by omega)]
      · rw [if_neg (by rw [nI_ltI (by omega) (by omega)]; exact w), if_pos (show 97 ≤ y a ∧ y a ≤ 122 by omega)]
        rfl
  · rw [if_neg (by rw [nI_ltI (by omega) (by omega)]; exact z), if_neg z]
    rfl
theorem p_adv60 {y : Nat → Nat} {n s : Nat} {h : Hp} (T : TY y n h) (es : hI h 47 6 = nI s) (hs : s = 1 ∨ s = 2) : ∀ (q a : Nat), a + q = n → lp (fun q : Int32 × Hp => s_Reader_advance_60 q.1 q.2) (nI a, h) = some (sI h 47 8 (nI (rn y n s a))) := by
  have hn := T.1
  intro q
  induction q with
  | zero =>
    intro a ha
    refine lp_inr ?_
    show s_Reader_advance_60 (nI a) h = _
    unfold s_Reader_advance_60 s_Reader_advance_97
    rw [T.2.1, if_pos (by rw [nI_leI (by omega) (by omega)]; omega), rn_stop (Or.inl (by omega))]
    rfl
  | succ q ih =>
    intro a ha
    by_cases e : soB (y a) = s
    · rw [rn_go (by omega) e, ← ih (a + 1) (by omega)]
      refine lp_inl ?_
      show s_Reader_advance_60 (nI a) h = _
      unfold s_Reader_advance_60
      rw [T.2.1, if_neg (by rw [nI_leI (by omega) (by omega)]; omega), es, if_neg (by rcases hs with rfl | rfl <;> decide), p_sortAt T (by omega), Option.bind_some, if_pos (by omega : a < n), if_pos (by rw [e]), nI_1]
    · refine lp_inr ?_
      show s_Reader_advance_60 (nI a) h = _
      have sb := soB_e (y a)
      unfold s_Reader_advance_60 s_Reader_advance_97
      rw [T.2.1, if_neg (by rw [nI_leI (by omega) (by omega)]; omega), es, if_neg (by rcases hs with rfl | rfl <;> decide), p_sortAt T (by omega), Option.bind_some, if_pos (by omega : a < n), if_neg (by rw [nI_eq (by omega) (by omega)]; exact e), rn_stop (Or.inr e)]
      rfl
theorem p_adv36 {y : Nat → Nat} {n f : Nat} {h : Hp} (T : TY y n h) (hf : f ≤ n) : s_Reader_advance_36 (nI f) h = some (sI (sI (sI h 47 7 (nI f)) 47 6 (nI (if f < n then soB (y f) else 0))) 47 8 (nI (enT y n f))) := by
  have hn := T.1
  have T1 : TY y n (sI h 47 7 (nI f)) := TY_eq T (hI_sI_ne (by decide)) (hI_sI_ne (by decide))
  unfold s_Reader_advance_36
  rw [p_sortAt T1 (by omega), Option.bind_some, lt_eq]
  have T2 : TY y n (sI (sI h 47 7 (nI f)) 47 6 (nI (if f < n then soB (y f) else 0))) := TY_eq T1 (hI_sI_ne (by decide)) (hI_sI_ne (by decide))
  have e6 : hI (sI (sI h 47 7 (nI f)) 47 6 (nI (if f < n then soB (y f) else 0))) 47 6 = nI (if f < n then soB (y f) else 0) := by rw [hI_sI', if_pos ⟨rfl, rfl⟩]
  rw [e6]
  unfold enT
  by_cases z : f < n
  · rw [if_pos z] at T2 e6 ⊢
    rw [if_pos z]
    have sb := soB_e (y f)
    rw [if_neg (nI_ne0 (by omega) (by omega)), nI_1]
    by_cases w : soB (y f) = 3
    · rw [if_pos w]
      refine lp_inr ?_
      show s_Reader_advance_60 (nI (f + 1)) _ = _
      unfold s_Reader_advance_60 s_Reader_advance_97
      rw [T2.2.1]
      by_cases v : n ≤ f + 1
      · rw [if_pos (by rw [nI_leI (by omega) (by omega)]; exact v)]; rfl
      · rw [if_neg (by rw [nI_leI (by omega) (by omega)]; exact v), e6, if_pos (by rw [w]; rfl)]; rfl
    · rw [if_neg w]
      exact p_adv60 T2 e6 (by omega) (n - (f + 1)) (f + 1) (by omega)
  · rw [if_neg z] at T2 e6 ⊢
    rw [if_neg z, if_pos (show nI 0 = 0 from rfl)]
    refine lp_inr ?_
    show s_Reader_advance_60 (nI f) _ = _
    unfold s_Reader_advance_60 s_Reader_advance_97
    rw [T2.2.1, if_pos (by rw [nI_leI (by omega) (by omega)]; omega)]
    rfl
theorem p_advance {y : Nat → Nat} {n : Nat} {h : Hp} (T : TY y n h) : ∀ (q a : Nat), a + q = n → lp (fun q : Int32 × Hp => s_Reader_advance_5 q.1 q.2) (nI a, h) = some (sI (sI (sI h 47 7 (nI (sk y n a))) 47 6 (nI (if sk y n a < n then soB (y (sk y n a)) else 0))) 47 8 (nI (enT y n (sk y n a)))) := by
  have hn := T.1
  intro q
  induction q with
  | zero =>
    intro a ha
    refine lp_inr ?_
    show s_Reader_advance_5 (nI a) h = _
    unfold s_Reader_advance_5
    rw [T.2.1, if_pos (by rw [nI_leI (by omega) (by omega)]; omega), sk_stop (Or.inl (by omega)), p_adv36 T (by omega)]
    rfl
  | succ q ih =>
    intro a ha
    obtain ⟨b1, b2⟩ := T.2.2 a (by omega)
    by_cases e : y a = 32
    · rw [sk_go (by omega) e, ← ih (a + 1) (by omega)]
      refine lp_inl ?_
      show s_Reader_advance_5 (nI a) h = _
      unfold s_Reader_advance_5
      rw [T.2.1, if_neg (by rw [nI_leI (by omega) (by omega)]; omega), ib_nI (by omega) (by decide), show ix (nI a) = a from nI_clamp (by omega), b2, if_pos (by rw [e]; rfl), nI_1]
    · refine lp_inr ?_
      show s_Reader_advance_5 (nI a) h = _
      unfold s_Reader_advance_5
      rw [T.2.1, if_neg (by rw [nI_leI (by omega) (by omega)]; omega), ib_nI (by omega) (by decide), show ix (nI a) = a from nI_clamp (by omega), b2, if_neg (by rw [show (32 : Int32) = nI 32 from rfl, nI_eq (by omega) (by decide)]; exact e), sk_stop (Or.inr e), p_adv36 T (by omega)]
      rfl
/-- the class stands at token k -/
def CK (y : Nat → Nat) (n k : Nat) (h : Hp) : Prop := TY y n h ∧ hI h 47 6 = nI (tS y n k) ∧ hI h 47 7 = nI (tF y n k) ∧ hI h 47 8 = nI (tE y n k)
def s47 (j : Nat) : Bool := decide (j = 47)
theorem p_step {y : Nat → Nat} {n a : Nat} {h : Hp} (T : TY y n h) (ha : a ≤ n) (e8 : hI h 47 8 = nI a) : ∃ h2, s_Reader_advance h = some h2 ∧ TY y n h2 ∧ hI h2 47 6 = nI (if sk y n a < n then soB (y (sk y n a)) else 0) ∧ hI h2 47 7 = nI (sk y n a) ∧ hI h2 47 8 = nI (enT y n (sk y n a)) ∧ eqO s47 h h2 ∧ ∀ i, i < 6 ∨ 8 < i → hI h2 47 i = hI h 47 i := by
  refine ⟨sI (sI (sI h 47 7 (nI (sk y n a))) 47 6 (nI (if sk y n a < n then soB (y (sk y n a)) else 0))) 47 8 (nI (enT y n (sk y n a))), ?_, TY_eq T (by rw [hI_sI_ne (by decide), hI_sI_ne (by decide), hI_sI_ne (by decide)]) (by rw [hI_sI_ne (by decide), hI_sI_ne (by decide), hI_sI_ne (by decide)]), ?_, ?_, ?_, eqO_sI (eqO_sI (eqO_sI (eqO_refl _ _) (by decide)) (by decide)) (by decide), fun i hi => ?_⟩
  · unfold s_Reader_advance
    rw [e8]
    exact p_advance T (n - a) a (by omega)
  · rw [hI_sI', if_neg (by omega), hI_sI', if_pos ⟨rfl, rfl⟩]
  · rw [hI_sI', if_neg (by omega), hI_sI', if_neg (by omega), hI_sI', if_pos ⟨rfl, rfl⟩]
  · rw [hI_sI', if_pos ⟨rfl, rfl⟩]
  · rw [hI_sI', if_neg (by omega), hI_sI', if_neg (by omega), hI_sI', if_neg (by omega)]
theorem p_next {y : Nat → Nat} {n k : Nat} {h : Hp} (C : CK y n k h) : ∃ h2, s_Reader_advance h = some h2 ∧ CK y n (k + 1) h2 ∧ eqO s47 h h2 ∧ ∀ i, i < 6 ∨ 8 < i → hI h2 47 i = hI h 47 i := by
  obtain ⟨h2, a1, a2, a3, a4, a5, a6, a7⟩ := p_step C.1 (tE_b (y := y) (k := k)).2.1 C.2.2.2
  exact ⟨h2, a1, ⟨a2, a3, a4, a5⟩, a6, a7⟩
theorem p_isOther {y : Nat → Nat} {n k c : Nat} {h : Hp} (C : CK y n k h) (hc : c < 256) : s_Reader_isOther (nI c) h = some (if tC y n k = 100 + c then 1 else 0) := by
  have hn := C.1.1
  unfold s_Reader_isOther s_Reader_isOther_28 s_Reader_isOther_29
  rw [C.2.1, C.2.2.1]
  rcases tS_e y n k with ⟨z, -⟩ | ⟨z, e, w⟩
  · rw [z, if_neg (show ¬ nI 0 = 3 by decide), tC_end z, if_neg (by omega), bz_0]
  · rcases w with w | w | w
    · have := tC_wordb w
      rw [w, if_neg (show ¬ nI 1 = 3 by decide), if_neg (by omega), bz_0]
    · rw [w, if_neg (show ¬ nI 2 = 3 by decide), tC_num w, if_neg (by omega), bz_0]
    · obtain ⟨b1, b2⟩ := C.1.2.2 _ z
      rw [w, if_pos (show nI 3 = 3 from rfl), ib_nI (by omega) (by decide), show ix (nI (tF y n k)) = tF y n k from nI_clamp (by omega), b2, tC_oth w]
      by_cases v : y (tF y n k) = c
      · rw [if_pos (by rw [v]), if_pos (by omega), bz_1]
      · rw [if_neg (by rw [nI_eq (by omega) (by omega)]; exact v), if_neg (by omega), bz_0]
