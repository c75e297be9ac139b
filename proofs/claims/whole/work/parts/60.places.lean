/-! where the class keeps what the reference keeps in one row -/
def pl (j : Nat) : Nat × Nat :=
  if j < 6 then (1, j) else if j < 30 then (2, j - 6) else if j < 41 then (3, j - 30) else if j < 91 then (4, j - 41)
  else if j < 103 then (6 + (j - 91) % 2, (j - 91) / 2) else if j < 121 then (9 + (j - 103) % 3, (j - 103) / 3)
  else if j < 161 then (8, j - 121) else if j < 185 then (12 + (j - 161) % 2, (j - 161) / 2)
  else if j = 185 then (0, 15) else if j = 186 then (0, 17) else if j = 187 then (0, 16) else if j = 188 then (0, 18) else if j = 189 then (0, 13) else (0, 14)
theorem pl_inj : ∀ i, i < 191 → ∀ j, j < 191 → pl i = pl j → i = j := by decide +kernel
theorem pl_off : ∀ i, i < 191 → (pl i).1 < 14 := by decide +kernel
theorem pl_n5 : ∀ i, i < 191 → (pl i).1 ≠ 5 := by decide +kernel
theorem pl_sea : ∀ i, i < 6 → pl i = (1, i) := by decide +kernel
theorem pl_moon : ∀ i, i < 24 → pl (6 + i) = (2, i) := by decide +kernel
theorem pl_term : ∀ i, i < 11 → pl (30 + i) = (3, i) := by decide +kernel
theorem pl_kind : ∀ i, i < 50 → pl (41 + i) = (4, i) := by decide +kernel
theorem pl_pace : ∀ i, i < 6 → pl (91 + 2 * i) = (6, i) := by decide +kernel
theorem pl_bear : ∀ i, i < 6 → pl (92 + 2 * i) = (7, i) := by decide +kernel
theorem pl_ready : ∀ i, i < 6 → pl (103 + 3 * i) = (9, i) := by decide +kernel
theorem pl_pass : ∀ i, i < 6 → pl (104 + 3 * i) = (10, i) := by decide +kernel
theorem pl_limit : ∀ i, i < 6 → pl (105 + 3 * i) = (11, i) := by decide +kernel
theorem pl_plan : ∀ i, i < 40 → pl (121 + i) = (8, i) := by decide +kernel
theorem pl_fmin : ∀ i, i < 12 → pl (161 + 2 * i) = (12, i) := by decide +kernel
theorem pl_flev : ∀ i, i < 12 → pl (162 + 2 * i) = (13, i) := by decide +kernel
def StP (K : Nat → Int32) (h : Hp) (s : Nat) : Prop := ∀ j, j < 191 → hI h (s + (pl j).1) (pl j).2 = K j
theorem StP_at {K : Nat → Int32} {h : Hp} {s j a b : Nat} (H : StP K h s) (hj : j < 191) (e : pl j = (a, b)) : hI h (s + a) b = K j := by
  have := H j hj
  rwa [e] at this
theorem upd_eq (f : Nat → Int32) (k : Nat) (x : Int32) : upd f k x k = x := if_pos rfl
theorem upd_ne {f : Nat → Int32} {k j : Nat} {x : Int32} (hj : j ≠ k) : upd f k x j = f j := if_neg hj
theorem StP_set {K : Nat → Int32} {h : Hp} {s j a b : Nat} {v : Int32} (H : StP K h s) (hj : j < 191) (e : pl j = (a, b)) : StP (upd K j v) (sI h (s + a) b v) s := by
  intro i hi
  rw [hI_sI']
  by_cases hij : i = j
  · subst hij
    rw [e, if_pos ⟨rfl, rfl⟩, upd_eq]
  · rw [upd_ne hij, if_neg, H i hi]
    rintro ⟨z1, z2⟩
    apply hij
    apply pl_inj i hi j hj
    rw [e]
    exact Prod.ext (by show (pl i).1 = a; omega) z2
theorem StP_fr {K : Nat → Int32} {h h2 : Hp} {s : Nat} (H : StP K h s) (hf : ∀ d, d < 14 → hI h2 (s + d) = hI h (s + d)) : StP K h2 s := fun j hj => by rw [hf _ (pl_off j hj)]; exact H j hj
/-- ranges -/
def rgO (o p : Nat) : Int32 × Int32 :=
  if o = 0 then (if p = 14 then (-1, 5) else if p = 16 then (0, 40) else if p = 18 then (0, 12) else (0, 6))
  else if o = 1 then ([-500, 0, -5].getD (p % 3) 0, [500, 3, 5].getD (p % 3) 0)
  else if o = 2 then ([0, 60, 0].getD (p % 3) 0, [500, 2000, 1999].getD (p % 3) 0)
  else if o = 3 then ([0, 0, 1, 0, -1000, 0, 1, 0, 0, -40, 950].getD p 0, [50, 50, 500, 500, 1000, 60, 500, 20, 50, 40, 1050].getD p 0)
  else if o = 4 then (0, 5) else if o = 6 then (0, 1500) else if o = 7 then (0, 99) else if o = 8 then (0, 4)
  else if o = 9 then (0, 1439) else if o = 10 then (0, 120) else if o = 11 then (0, 2000) else if o = 12 then (0, 1439) else (-9999, 9999)
def rj (j : Nat) : Int32 × Int32 := rgO (pl j).1 (pl j).2
def inR (j : Nat) (v : Int32) : Prop := wi v (rj j).1 (rj j).2 = 1
def Rg (K : Nat → Int32) : Prop := (∀ j, j < 191 → inR j (K j)) ∧ K 190 < K 189 ∧ ∀ s, s < 6 → nI s < K 186 → 1 ≤ K (104 + 3 * s)
theorem Rg_set {K : Nat → Int32} {j : Nat} {v : Int32} (H : Rg K) (hj : j < 186) (hv : inR j v) (hp : ∀ s, s < 6 → j = 104 + 3 * s → 1 ≤ v) : Rg (upd K j v) := by
  refine ⟨fun i hi => ?_, ?_, fun s hs hn => ?_⟩
  · by_cases hij : i = j
    · subst hij; rw [upd_eq]; exact hv
    · rw [upd_ne hij]; exact H.1 i hi
  · rw [upd_ne (by omega), upd_ne (by omega)]; exact H.2.1
  · rw [upd_ne (by omega)] at hn
    by_cases hsj : 104 + 3 * s = j
    · rw [hsj, upd_eq]; exact hp s hs hsj.symm
    · rw [upd_ne hsj]; exact H.2.2 s hs hn
theorem Rg_cnt {K : Nat → Int32} {j : Nat} {v : Int32} (H : Rg K) (hj : j = 187 ∨ j = 188) (hv : inR j v) : Rg (upd K j v) := by
  refine ⟨fun i hi => ?_, ?_, fun s hs hn => ?_⟩
  · by_cases hij : i = j
    · subst hij; rw [upd_eq]; exact hv
    · rw [upd_ne hij]; exact H.1 i hi
  · rw [upd_ne (by omega), upd_ne (by omega)]; exact H.2.1
  · rw [upd_ne (by omega)] at hn
    rw [upd_ne (by omega)]; exact H.2.2 s hs hn
theorem Rg_nat {K : Nat → Int32} {j b : Nat} (H : Rg K) (hj : j < 191) (e : rj j = (0, nI b)) (hb : b < 2 ^ 31) : ∃ k, k ≤ b ∧ K j = nI k := by
  have := H.1 j hj
  unfold inR at this
  rw [e] at this
  exact wi_nat hb this
theorem Rg_int {K : Nat → Int32} {j : Nat} {a b : Int32} (H : Rg K) (hj : j < 191) (e : rj j = (a, b)) : a ≤ K j ∧ K j ≤ b := by
  have := H.1 j hj
  unfold inR at this
  rw [e] at this
  exact wi_1.mp this
theorem rj_term : ∀ i, i < 11 → rj (30 + i) = (tmLo (nI i), tmHi (nI i)) := by decide +kernel
theorem rj_sea : ∀ e, e < 2 → ∀ c, c < 3 → rj (3 * e + c) = (seaLo (nI c), seaHi (nI c)) := by decide +kernel
theorem rj_moon : ∀ e, e < 2 → ∀ m, m < 4 → ∀ c, c < 3 → rj (6 + 12 * e + 3 * m + c) = (moonLo (nI c), moonHi (nI c)) := by decide +kernel
theorem rj_kind : ∀ i, i < 50 → rj (41 + i) = (0, 5) := by decide +kernel
theorem rj_pace : ∀ i, i < 6 → rj (91 + 2 * i) = (0, 1500) := by decide +kernel
theorem rj_bear : ∀ i, i < 6 → rj (92 + 2 * i) = (0, 99) := by decide +kernel
theorem rj_ready : ∀ i, i < 6 → rj (103 + 3 * i) = (0, 1439) := by decide +kernel
theorem rj_pass : ∀ i, i < 6 → rj (104 + 3 * i) = (0, 120) := by decide +kernel
theorem rj_limit : ∀ i, i < 6 → rj (105 + 3 * i) = (0, 2000) := by decide +kernel
theorem rj_plan : ∀ i, i < 40 → rj (121 + i) = (0, 4) := by decide +kernel
theorem rj_fmin : ∀ i, i < 12 → rj (161 + 2 * i) = (0, 1439) := by decide +kernel
theorem rj_flev : ∀ i, i < 12 → rj (162 + 2 * i) = (-9999, 9999) := by decide +kernel
theorem wi_up {v a b c d : Int32} (h : wi v a b = 1) (h1 : c ≤ a) (h2 : b ≤ d) : wi v c d = 1 := by
  obtain ⟨z1, z2⟩ := wi_1.mp h
  exact wi_1.mpr ⟨Int32.le_trans h1 z1, Int32.le_trans z2 h2⟩
/-- masks: what a number hangs on -/
def mk (p : Nat → Bool) (K : Nat → Int32) : Nat → Int32 := fun j => if p j then K j else 0
theorem mk_upd {p : Nat → Bool} {j : Nat} (hp : p j = false) (K : Nat → Int32) (v : Int32) : mk p (upd K j v) = mk p K := by
  funext i
  unfold mk
  by_cases hij : i = j
  · subst hij; simp [hp]
  · rw [upd_ne hij]
theorem mk_at {p : Nat → Bool} {j : Nat} (hp : p j = true) (K : Nat → Int32) : mk p K j = K j := by
  unfold mk; rw [hp]; rfl
theorem mk_eq {p : Nat → Bool} {K K2 : Nat → Int32} (h : ∀ j, p j = true → K2 j = K j) : mk p K2 = mk p K := by
  funext i
  unfold mk
  by_cases hi : p i = true
  · rw [if_pos hi, if_pos hi, h i hi]
  · rw [if_neg hi, if_neg hi]
def pF (j : Nat) : Bool := decide (j < 41)
def pS (j : Nat) : Bool := decide (j < 41) || (decide (103 ≤ j) && decide (j < 121)) || decide (j = 186)
def pD (j : Nat) : Bool := decide (j < 41) || (decide (161 ≤ j) && decide (j < 185)) || decide (j = 188)
