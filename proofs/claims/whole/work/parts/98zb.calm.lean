/-! ways: calmest, the maths -/
def whN (T : TF) (K : Nat → Int32) (c s : Nat) : Nat := ix (wh T (mk pF K) (td0 T (mk pF K)) (K (41 + c)) (10 * s))
theorem whN_e (T : TF) (K : Nat → Int32) (c s : Nat) : whN T K c s < 100 ∧ wh T (mk pF K) (td0 T (mk pF K)) (K (41 + c)) (10 * s) = nI (whN T K c s) := by
  obtain ⟨w, h1, h2⟩ := wh_n T (mk pF K) (td0 T (mk pF K)) (K (41 + c)) (10 * s)
  have : whN T K c s = w := by unfold whN; rw [h2]; exact nI_clamp (by omega)
  rw [this]
  exact ⟨h1, h2⟩
/-- what the moves up to j from cell c offer -/
def ofF (T : TF) (K : Nat → Int32) (b s c v : Nat) : Nat → (Nat → Nat) → Nat → Nat
  | 0, g => g
  | j + 1, g => match beh T K b c s j 0 with
    | none => ofF T K b s c v j g
    | some d => fun x => if x = d then min (ofF T K b s c v j g d) (v + whN T K d (s + 1)) else ofF T K b s c v j g x
/-- what the cells before c offer -/
def ocF (T : TF) (K : Nat → Int32) (b s : Nat) (f : Nat → Nat) : Nat → Nat → Nat
  | 0 => fun _ => 1000000
  | c + 1 => if f c < 1000000 then ofF T K b s c (f c) 5 (ocF T K b s f c) else ocF T K b s f c
def csF (T : TF) (K : Nat → Int32) (b s0 a : Nat) : Nat → Nat → Nat
  | 0 => fun c => if c = a ∧ canB T K b a (10 * s0) = true then whN T K a s0 else 1000000
  | i + 1 => ocF T K b (s0 + i) (csF T K b s0 a i) 50
def bcF (T : TF) (K : Nat → Int32) (b s0 a t : Nat) : Nat → Nat
  | 0 => csF T K b s0 a 0 t
  | i + 1 => min (bcF T K b s0 a t i) (csF T K b s0 a (i + 1) t)
/-- small, or nothing -/
def sB (B : Nat) (g : Nat → Nat) : Prop := ∀ c, g c = 1000000 ∨ g c < B
theorem ofF_b {T : TF} {K : Nat → Int32} {b s c v B : Nat} {g : Nat → Nat} (hv : v + 100 ≤ B) (hB : B ≤ 100000) (hg : sB B g) : ∀ j, sB B (ofF T K b s c v j g)
  | 0 => hg
  | j + 1 => by
    have ih := ofF_b (T := T) (K := K) (b := b) (s := s) (c := c) hv hB hg j
    intro x
    rw [ofF]
    cases beh T K b c s j 0 with
    | none => exact ih x
    | some d =>
      show (if x = d then min (ofF T K b s c v j g d) (v + whN T K d (s + 1)) else ofF T K b s c v j g x) = 1000000 ∨ (if x = d then min (ofF T K b s c v j g d) (v + whN T K d (s + 1)) else ofF T K b s c v j g x) < B
      have := (whN_e T K d (s + 1)).1
      by_cases z : x = d
      · rw [if_pos z]
        exact Or.inr (by omega)
      · rw [if_neg z]
        exact ih x
theorem ocF_b {T : TF} {K : Nat → Int32} {b s B : Nat} {f : Nat → Nat} (hB : B + 100 ≤ 100000) (hf : sB B f) : ∀ c, sB (B + 100) (ocF T K b s f c)
  | 0 => fun _ => Or.inl rfl
  | c + 1 => by
    have ih := ocF_b (T := T) (K := K) (b := b) (s := s) hB hf c
    rw [ocF]
    by_cases z : f c < 1000000
    · rw [if_pos z]
      have : f c < B := by
        rcases hf c with y | y
        · omega
        · exact y
      exact ofF_b (by omega) hB ih 5
    · rw [if_neg z]
      exact ih
theorem csF_b {T : TF} {K : Nat → Int32} {b s0 a : Nat} : ∀ i, i < 200 → sB (100 * (i + 1)) (csF T K b s0 a i)
  | 0, _ => fun c => by
    have := (whN_e T K a s0).1
    show (if c = a ∧ canB T K b a (10 * s0) = true then whN T K a s0 else 1000000) = 1000000 ∨ (if c = a ∧ canB T K b a (10 * s0) = true then whN T K a s0 else 1000000) < 100
    by_cases z : c = a ∧ canB T K b a (10 * s0) = true
    · rw [if_pos z]; exact Or.inr (by omega)
    · rw [if_neg z]; exact Or.inl rfl
  | i + 1, hi => by
    have ih := csF_b (T := T) (K := K) (b := b) (s0 := s0) (a := a) i (by omega)
    rw [csF, show 100 * (i + 1 + 1) = 100 * (i + 1) + 100 by omega]
    exact ocF_b (by omega) ih 50
theorem csF_dead {T : TF} {K : Nat → Int32} {b s0 a : Nat} (h : canB T K b a (10 * s0) = false) : ∀ i c, csF T K b s0 a i c = 1000000
  | 0, c => if_neg (fun z => by rw [h] at z; cases z.2)
  | i + 1, c => by
    have ih := csF_dead (T := T) (K := K) (b := b) (s0 := s0) h i
    rw [csF]
    have : ∀ k x, ocF T K b (s0 + i) (csF T K b s0 a i) k x = 1000000 := fun k => by
      induction k with
      | zero => intro x; rfl
      | succ k hk => intro x; rw [ocF, if_neg (by rw [ih k]; omega)]; exact hk x
    exact this 50 c
theorem bcF_b {T : TF} {K : Nat → Int32} {b s0 a t : Nat} : ∀ i, i < 200 → bcF T K b s0 a t i = 1000000 ∨ bcF T K b s0 a t i < 100000
  | 0, h => by
    rw [bcF]
    rcases csF_b (T := T) (K := K) (b := b) (s0 := s0) (a := a) 0 h t with z | z
    · exact Or.inl z
    · exact Or.inr (by omega)
  | i + 1, h => by
    rw [bcF]
    have h1 := bcF_b (T := T) (K := K) (b := b) (s0 := s0) (a := a) (t := t) i (by omega)
    have h2 := csF_b (T := T) (K := K) (b := b) (s0 := s0) (a := a) (i + 1) h t
    omega
theorem bcF_dead {T : TF} {K : Nat → Int32} {b s0 a t : Nat} (h : canB T K b a (10 * s0) = false) : ∀ i, bcF T K b s0 a t i = 1000000
  | 0 => csF_dead h 0 t
  | i + 1 => by rw [bcF, bcF_dead h i, csF_dead h (i + 1) t, Nat.min_self]
def cmO (T : TF) (K : Nat → Int32) (b s0 a t : Nat) : Option Nat := if bcF T K b s0 a t (143 - s0) < 1000000 then some (bcF T K b s0 a t (143 - s0)) else none
theorem z_min_nI {a b : Nat} (ha : a < 2147483648) (hb : b < 2147483648) : z_min (nI a) (nI b) = nI (min a b) := by
  unfold z_min
  by_cases z : a ≤ b
  · first
    | rw [if_pos (by rw [nI_leI (by omega) (by omega)]; exact z), Nat.min_eq_left z]
    | (by_cases y : b < a
       · omega
       · rw [if_neg (by rw [nI_ltI (by omega) (by omega)]; exact y), Nat.min_eq_left z])
  · first
    | rw [if_neg (by rw [nI_leI (by omega) (by omega)]; exact z), Nat.min_eq_right (by omega)]
    | rw [if_pos (by rw [nI_ltI (by omega) (by omega)]; omega), Nat.min_eq_right (by omega)]
