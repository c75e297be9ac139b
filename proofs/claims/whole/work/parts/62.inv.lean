/-! the invariant -/
def eqO (S : Nat → Bool) (h h2 : Hp) : Prop := h2.2.2 = h.2.2 ∧ ∀ j, S j = false → hI h2 j = hI h j ∧ hL h2 j = hL h j
def m84 (P : Nat → Bool) (h h2 : Hp) : Prop := ∀ k, P k = true → hI h2 84 k = hI h 84 k
def sTl (j : Nat) : Bool := decide (j = 51) || decide (j = 53)
def sAs (j : Nat) : Bool := decide (j = 84)
def asF (k : Nat) : Bool := !(decide (k = 19) || decide (k = 20) || decide (k = 21) || decide (k = 24))
def mnF (k : Nat) : Bool := decide (k = 0) || decide (k = 1) || decide (k = 6) || decide (k = 10) || decide (k = 11) || decide (k = 51)
/-- a law's code and clauses, as the class keeps them, tell what T says -/
def CT (T : TF) (na : Nat) (ca : Nat → Int32) (nb : Nat) (cb : Nat → Int32) : Prop :=
  ∀ (h : Hp) (r a b : Nat), nd h r 101 2 → NS ≤ r → rf h r 0 = some a → rf h r 1 = some b → NS ≤ a → NS ≤ b → nd h a 0 na → nd h b 0 nb → hI h a = ca → hI h b = cb → ∀ g, g < 2 → ∃ h', s_Teller_tellsBy r (nI g) h = some (if (t7 T g (hI h 52)).isSome then 1 else 0, h') ∧ (∀ x, t7 T g (hI h 52) = some x → hI h' 51 2 = x) ∧ eqO sTl h h'
def ClsT (h : Hp) (r : Nat) (T : TF) : Prop := nd h r 101 2 ∧ NS ≤ r ∧ ∃ a b na nb, rf h r 0 = some a ∧ rf h r 1 = some b ∧ NS ≤ a ∧ NS ≤ b ∧ nd h a 0 na ∧ nd h b 0 nb ∧ na ≤ 400 ∧ nb ≤ 400 ∧ CT T na (hI h a) nb (hI h b)
/-- a law's tokens, as the reference keeps them, tell what T says -/
def tkE (K K2 : Nat → Int32) (t : Nat) : Prop := K2 (192 + t) = K (192 + t) ∧ ∀ i, i < 400 → K2 (198 + 400 * t + i) = K (198 + 400 * t + i) ∧ K2 (2598 + 400 * t + i) = K (2598 + 400 * t + i)
def RefT (K : Nat → Int32) (t : Nat) (T : TF) : Prop :=
  ∀ h : Hp, hI h 86 190 = nI t → tkE K (hI h 86) t → ∀ g, g < 2 → ∃ h', s_Mod_asks (nI (g + 1)) h = some h' ∧ hI h' 84 24 = (if (t7 T g (hI h 95)).isSome then 1 else 0) ∧ (∀ x, t7 T g (hI h 95) = some x → hL h' 84 23 = x.toInt64) ∧ eqO sAs h h' ∧ m84 asF h h'
def LW (τ : Nat → TF) (K : Nat → Int32) (h : Hp) (s : Nat) : Prop := ∀ t, t < 6 → nI t < K 189 → ∃ r, hR h (s + 5) t = some r ∧ ClsT h r (τ t) ∧ RefT K t (τ t)
def SM (τ : Nat → TF) (K : Nat → Int32) (h : Hp) (s : Nat) : Prop := StP K h s ∧ Rg K ∧ LW τ K h s
def IM (τ : Nat → Nat → TF) (h : Hp) : Prop := ∀ i, i < 2 → hI h 44 i = hI h 88 i ∧ (hI h 44 i = 0 ∨ (hI h 44 i = 1 ∧ SM (τ (i + 1)) (fun j => hI h 87 (4998 * i + j)) h (16 + 14 * i)))
def TP (h : Hp) : Prop := ∃ k, k ≤ 400 ∧ hI h 45 1 = nI k ∧ hI h 84 10 = nI k ∧ ∀ i, i < k → (∃ b, b < 256 ∧ hI h 46 i = nI b) ∧ hI h 90 i = z_i2b (hI h 46 i)
def SS (h : Hp) : Prop := hI h 0 12 = hI h 84 0 ∧ hI h 0 13 = hI h 84 6 ∧ hI h 0 14 = hI h 84 11 ∧ hI h 83 0 = hI h 85 1 ∧ hI h 83 1 = hI h 85 2 ∧ hI h 83 2 = hI h 85 5 ∧ hI h 83 3 = hI h 85 6
/-- rows made later -/
def rw1 (h : Hp) (o : Option Nat) (n : Nat) : Prop := ∀ r, o = some r → NS ≤ r ∧ nd h r 0 n
def RW (h : Hp) : Prop := rw1 h (hR h 50 6) 1440 ∧ rw1 h (hR h 50 7) 1440 ∧ rw1 h (hR h 50 8) 1440 ∧ rw1 h (hR h 69 2) 8640 ∧
  (∀ r, hR h 50 6 = some r → hR h 50 7 ≠ some r ∧ hR h 50 8 ≠ some r) ∧ (∀ r, hR h 50 7 = some r → hR h 50 8 ≠ some r) ∧ ∀ j t r, (j = 6 ∨ j = 21 ∨ j = 35) → t < 6 → hR h j t = some r → NS ≤ r ∧ nd h r 101 2
/-- what the class keeps worked out -/
def C9 (K : Nat → Int32) (h : Hp) : Prop := hI h 50 9 = 0 ∨ (hI h 50 9 = 1 ∧ TdOK K h)
def C10 (T : TF) (K : Nat → Int32) (h : Hp) : Prop := hI h 50 10 = 0 ∨ (hI h 50 10 = 1 ∧ hI h 50 9 = 1 ∧ ∀ m, m < 1440 → hI h 57 m = td0 T K m)
def C11 (T : TF) (K : Nat → Int32) (h : Hp) : Prop := hI h 50 11 = 0 ∨ (hI h 50 11 = 1 ∧ ∃ r, hR h 50 6 = some r ∧ ∀ m, m < 1440 → hI h r m = cal T K m)
def C12 (T : TF) (K : Nat → Int32) (h : Hp) : Prop := hI h 50 12 = -1 ∨ ∃ n, n ≤ 20 ∧ hI h 50 12 = nI n ∧ hL h 56 n = tk T K n ∧ ∃ r, hR h 50 7 = some r ∧ ∀ m, m < 1440 → hI h r m = drv T K n m
def C56 (T : TF) (K : Nat → Int32) (h : Hp) : Prop := ∀ n, n ≤ 20 → hL h 56 n = -1 ∨ hL h 56 n = tk T K n
def C13 (T : TF) (K : Nat → Int32) (h : Hp) : Prop := hI h 50 13 = -1 ∨ hI h 50 13 = nI (bsN T K 20)
def C58 (T : TF) (K : Nat → Int32) (h : Hp) : Prop := hI h 58 12 = 0 ∨ (hI h 58 12 = 1 ∧ ∀ s k, s < 144 → k < 6 → hI h 59 (6 * s + k) = fa K (td0 T K) (nI k) (10 * s) ∧ hI h 60 (6 * s + k) = wh T K (td0 T K) (nI k) (10 * s))
def lkOK (row K : Nat → Int32) (h : Hp) : Prop := match bstC row K with
  | none => hI h 69 7 = -1
  | some c => hI h 69 7 = nI c.2 ∧ ∀ i q, c.1[i]? = some q → hI h 72 i = nI q.1 ∧ hI h 73 q.1 = nI q.2
def C69 (T : TF) (K : Nat → Int32) (h : Hp) : Prop := hI h 69 8 = 0 ∨ (hI h 69 8 = 1 ∧ lkOK (td0 T (mk pF K)) (mk pS K) h)
def sdOK (K : Nat → Int32) (q : Nat) (h : Hp) : Prop := hI h 74 6 = nI (flC K q []) ∧ (∀ f, f < ix (K 188) → hI h 77 f = nI (flC K q [f])) ∧
  (flC K q [] = 0 → hI h 74 7 = -1 ∧ hI h 74 8 = -1 ∧ hI h 74 9 = -1 ∧ hI h 74 10 = -1 ∧ hI h 74 11 = -1) ∧
  (¬ flC K q [] = 0 → ∃ a b c d e, hI h 74 7 = nI (10 * a) ∧ hI h 74 8 = nI (10 * b) ∧ hI h 74 9 = nI (10 * c) ∧ hI h 74 10 = nI (10 * d) ∧ hI h 74 11 = nI (10 * e) ∧
    isP K q a e ∧ (∀ x y, isP K q x y → a ≤ x ∧ x ≤ b ∧ c ≤ y ∧ y ≤ d) ∧ (∀ y, isP K q a y → e ≤ y) ∧ (∃ y, isP K q b y) ∧ (∃ x, isP K q x c) ∧ ∃ x, isP K q x d)
def C74 (K : Nat → Int32) (h : Hp) : Prop := hI h 74 5 = -1 ∨ ∃ q, q < 4 ∧ hI h 74 5 = nI q ∧ sdOK (mk pD K) q h
def ruOK (T : TF) (K : Nat → Int32) (h : Hp) : Prop := hI h 78 3 = (if (la K 1440).isSome then 1 else 0) ∧ hI h 78 2 = nI (smN (rlR K (td0 T K)) 1440) ∧ ∀ i, i ≤ 1440 → (hI h 79 i).toInt = smZ (rlW K (td0 T K) i) 1440
def C78 (T : TF) (K : Nat → Int32) (h : Hp) : Prop := hI h 78 4 = 0 ∨ (hI h 78 4 = 1 ∧ ruOK T K h)
def CF (T : TF) (K : Nat → Int32) (h : Hp) : Prop := C9 K h ∧ C10 T K h ∧ C11 T K h ∧ C12 T K h ∧ C56 T K h ∧ C13 T K h ∧ C58 T K h ∧ C78 T K h
def CC (T : TF) (K : Nat → Int32) (h : Hp) : Prop := CF T (mk pF K) h ∧ C69 T K h ∧ C74 K h
/-- what the reference keeps worked out -/
def RC (T : TF) (K : Nat → Int32) (n : Nat) (h : Hp) : Prop := ∃ v, v ≤ n ∧ hI h 84 1 = nI v ∧ (hI h 84 28 = -1 ∨ ∃ u, u ≤ v ∧ hI h 84 28 = nI u) ∧
  (hI h 84 28 = hI h 84 1 → (∀ m, m < 1440 → hI h 97 m = td0 T (mk pF K) m) ∧ ∀ k m, k < 6 → m < 1440 → hI h 99 (1440 * k + m) = wh T (mk pF K) (td0 T (mk pF K)) (nI k) m)
def DR (h : Hp) : Prop := (hR h 50 8 = none ∧ hI h 84 51 = 0) ∨ ∃ r, hR h 50 8 = some r ∧ hI h 84 51 = 1 ∧ ∀ m, m < 1440 → hI h r m = hI h 113 m
def RM (n : Nat) (h : Hp) : Prop := hN h ≤ 3 * n ∧ hS h ≤ 8640 * n
def wdL : List Int32 := [103, 97, 105, 110, 115, 32, 119, 104, 105, 116, 101, 32, 105, 102, 32, 111, 114, 32, 97, 110, 100, 32, 110, 111, 116, 32, 102, 97, 108, 108, 32, 102, 108, 111, 119, 32, 109, 105, 110, 117, 116, 101, 32, 119, 105, 110, 100, 32, 103, 108, 97, 115, 115, 32, 107, 105, 110, 100, 32, 116, 117, 114, 98, 105, 110, 101, 115, 32]
def WD (h : Hp) : Prop := ∀ k, k < 68 → hI h 89 k = wdL.getD k 0
/-- class and reference say the same -/
def InvT (τ : Nat → Nat → TF) (n : Nat) (h : Hp) : Prop :=
  SM (τ 0) (hI h 86) h 1 ∧ IM τ h ∧ TP h ∧ SS h ∧ RW h ∧ CC (tin (τ 0) (hI h 86)) (hI h 86) h ∧ RC (tin (τ 0) (hI h 86)) (hI h 86) n h ∧ DR h ∧ RM n h ∧ WD h
def Inv (n : Nat) (h : Hp) : Prop := ∃ τ, InvT τ n h
/-! frames -/
theorem eqO_refl (S : Nat → Bool) (h : Hp) : eqO S h h := ⟨rfl, fun _ _ => ⟨rfl, rfl⟩⟩
theorem eqO_trans {S : Nat → Bool} {h h1 h2 : Hp} (a : eqO S h h1) (b : eqO S h1 h2) : eqO S h h2 := ⟨b.1.trans a.1, fun j hj => ⟨(b.2 j hj).1.trans (a.2 j hj).1, (b.2 j hj).2.trans (a.2 j hj).2⟩⟩
theorem eqO_mono {S S2 : Nat → Bool} {h h1 : Hp} (a : eqO S h h1) (hs : ∀ j, S2 j = false → S j = false) : eqO S2 h h1 := ⟨a.1, fun j hj => a.2 j (hs j hj)⟩
theorem eqO_sI {S : Nat → Bool} {h h1 : Hp} {j k : Nat} {v : Int32} (a : eqO S h h1) (hs : S j = true) : eqO S h (sI h1 j k v) := ⟨a.1, fun i hi => ⟨by rw [hI_sI_ne (by rintro rfl; rw [hs] at hi; cases hi)]; exact (a.2 i hi).1, (a.2 i hi).2⟩⟩
theorem eqO_sL {S : Nat → Bool} {h h1 : Hp} {j k : Nat} {v : Int64} (a : eqO S h h1) (hs : S j = true) : eqO S h (sL h1 j k v) := ⟨a.1, fun i hi => ⟨(a.2 i hi).1, by rw [hL_sL_ne (by rintro rfl; rw [hs] at hi; cases hi)]; exact (a.2 i hi).2⟩⟩
theorem eqO_wI {S : Nat → Bool} {h h1 : Hp} {j : Nat} {f : Nat → Int32} (a : eqO S h h1) (hs : S j = true) : eqO S h (wI h1 j f) := ⟨a.1, fun i hi => ⟨by rw [hI_wI_ne (by rintro rfl; rw [hs] at hi; cases hi)]; exact (a.2 i hi).1, (a.2 i hi).2⟩⟩
theorem eqO_wL {S : Nat → Bool} {h h1 : Hp} {j : Nat} {f : Nat → Int64} (a : eqO S h h1) (hs : S j = true) : eqO S h (wL h1 j f) := ⟨a.1, fun i hi => ⟨(a.2 i hi).1, by rw [hL_wL_ne (by rintro rfl; rw [hs] at hi; cases hi)]; exact (a.2 i hi).2⟩⟩
theorem m84_refl (P : Nat → Bool) (h : Hp) : m84 P h h := fun _ _ => rfl
theorem m84_trans {P : Nat → Bool} {h h1 h2 : Hp} (a : m84 P h h1) (b : m84 P h1 h2) : m84 P h h2 := fun k hk => (b k hk).trans (a k hk)
theorem m84_mono {P Q : Nat → Bool} {h h1 : Hp} (a : m84 P h h1) (hs : ∀ k, Q k = true → P k = true) : m84 Q h h1 := fun k hk => a k (hs k hk)
theorem m84_sI {P : Nat → Bool} {h h1 : Hp} {j k : Nat} {v : Int32} (a : m84 P h h1) (hs : j ≠ 84 ∨ P k = false) : m84 P h (sI h1 j k v) := fun i hi => by
  rw [hI_sI', if_neg]
  · exact a i hi
  · rintro ⟨z1, z2⟩
    rcases hs with hs | hs
    · exact hs z1.symm
    · rw [z2, hs] at hi; cases hi
theorem m84_wI {P : Nat → Bool} {h h1 : Hp} {j : Nat} {f : Nat → Int32} (a : m84 P h h1) (hs : j ≠ 84) : m84 P h (wI h1 j f) := fun i hi => by
  rw [hI_wI_ne (Ne.symm hs)]; exact a i hi
theorem m84_of {P S : Nat → Bool} {h h1 : Hp} (a : eqO S h h1) (hs : S 84 = false) : m84 P h h1 := fun i _ => by rw [(a.2 84 hs).1]
/-- the weaker frame: rows of 1440 and 8640 may be made and written -/
def Fr (S : Nat → Bool) (h h2 : Hp) : Prop := (∀ j, j < NS → S j = false → hI h2 j = hI h j ∧ hL h2 j = hL h j) ∧ (∀ j, j < NS → j ≠ 50 → j ≠ 69 → hR h2 j = hR h j) ∧
  (∀ r, NS ≤ r → r < nid h → kd h2 r = kd h r ∧ hR h2 r = hR h r ∧ ((kd h r).2 ≤ 400 → hI h2 r = hI h r)) ∧ hN h ≤ hN h2
theorem hN_of {h h2 : Hp} (e : h2.2.2 = h.2.2) : hN h2 = hN h := by unfold hN; rw [e]
theorem hR_of {h h2 : Hp} (e : h2.2.2 = h.2.2) : hR h2 = hR h := by unfold hR; rw [e]
theorem hS_of {h h2 : Hp} (e : h2.2.2 = h.2.2) : hS h2 = hS h := by unfold hS; rw [e]
theorem kd_of {h h2 : Hp} (e : h2.2.2 = h.2.2) (r : Nat) : kd h2 r = kd h r := by unfold kd hD; rw [e]
theorem nid_of {h h2 : Hp} (e : h2.2.2 = h.2.2) : nid h2 = nid h := by unfold nid; rw [hN_of e]
theorem nd_eq {h h2 : Hp} (e : h2.2.2 = h.2.2) {r t n : Nat} (H : nd h r t n) : nd h2 r t n := by unfold nd; rw [kd_of e, nid_of e]; exact H
theorem rf_of {h h2 : Hp} (e : h2.2.2 = h.2.2) (r k : Nat) : rf h2 r k = rf h r k := by unfold rf; rw [hR_of e]
theorem Fr_refl (S : Nat → Bool) (h : Hp) : Fr S h h := ⟨fun _ _ _ => ⟨rfl, rfl⟩, fun _ _ _ _ => rfl, fun _ _ _ => ⟨rfl, rfl, fun _ => rfl⟩, Nat.le_refl _⟩
theorem Fr_trans {S : Nat → Bool} {h h1 h2 : Hp} (a : Fr S h h1) (b : Fr S h1 h2) : Fr S h h2 := by
  refine ⟨fun j h1 h2 => ⟨(b.1 j h1 h2).1.trans (a.1 j h1 h2).1, (b.1 j h1 h2).2.trans (a.1 j h1 h2).2⟩, fun j h1 h2 h3 => (b.2.1 j h1 h2 h3).trans (a.2.1 j h1 h2 h3), fun r h0 h1 => ?_, Nat.le_trans a.2.2.2 b.2.2.2⟩
  obtain ⟨a1, a2, a3⟩ := a.2.2.1 r h0 h1
  obtain ⟨b1, b2, b3⟩ := b.2.2.1 r h0 (Nat.lt_of_lt_of_le h1 (by unfold nid; have := a.2.2.2; omega))
  exact ⟨b1.trans a1, b2.trans a2, fun z => (b3 (by rw [a1]; exact z)).trans (a3 z)⟩
theorem Fr_of {S : Nat → Bool} {h h2 : Hp} (a : eqO S h h2) (hs : ∀ j, NS ≤ j → S j = false) : Fr S h h2 :=
  ⟨fun j _ h2 => a.2 j h2, fun j _ _ _ => by rw [hR_of a.1], fun r h0 _ => ⟨kd_of a.1 r, by rw [hR_of a.1], fun _ => (a.2 r (hs r h0)).1⟩, by rw [hN_of a.1]; exact Nat.le_refl _⟩
theorem rf_Fr {S : Nat → Bool} {h h2 : Hp} {r k : Nat} (F : Fr S h h2) (h0 : NS ≤ r) (h1 : r < nid h) : rf h2 r k = rf h r k := by
  unfold rf
  rw [(F.2.2.1 r h0 h1).2.1]
theorem nd_Fr {S : Nat → Bool} {h h2 : Hp} {r t n : Nat} (F : Fr S h h2) (h0 : NS ≤ r) (H : nd h r t n) : nd h2 r t n := by
  refine ⟨?_, Nat.lt_of_lt_of_le H.2 (by unfold nid; have := F.2.2.2; omega)⟩
  rw [(F.2.2.1 r h0 H.2).1]
  exact H.1
theorem ClsT_Fr {S : Nat → Bool} {h h2 : Hp} {r : Nat} {T : TF} (F : Fr S h h2) (H : ClsT h r T) : ClsT h2 r T := by
  obtain ⟨h1, h0, a, b, na, nb, e1, e2, l1, l2, n1, n2, s1, s2, c⟩ := H
  refine ⟨nd_Fr F h0 h1, h0, a, b, na, nb, by rw [rf_Fr F h0 h1.2]; exact e1, by rw [rf_Fr F h0 h1.2]; exact e2, l1, l2, nd_Fr F l1 n1, nd_Fr F l2 n2, s1, s2, ?_⟩
  rw [(F.2.2.1 a l1 n1.2).2.2 (by rw [n1.1]; exact s1), (F.2.2.1 b l2 n2.2).2.2 (by rw [n2.1]; exact s2)]
  exact c
theorem RefT_eq {K K2 : Nat → Int32} {t : Nat} {T : TF} (H : RefT K t T) (e : tkE K K2 t) : RefT K2 t T := by
  intro h h1 h2
  refine H h h1 ⟨h2.1.trans e.1, fun i hi => ⟨(h2.2 i hi).1.trans (e.2 i hi).1, (h2.2 i hi).2.trans (e.2 i hi).2⟩⟩
theorem LW_Fr {S : Nat → Bool} {h h2 : Hp} {s : Nat} {τ : Nat → TF} {K K2 : Nat → Int32} (F : Fr S h h2) (hs : s + 5 < 50) (H : LW τ K h s) (e0 : K2 189 = K 189) (e : ∀ j, 192 ≤ j → K2 j = K j) : LW τ K2 h2 s := by
  intro t h6 ht
  rw [e0] at ht
  obtain ⟨r, e1, e2, e3⟩ := H t h6 ht
  refine ⟨r, ?_, ClsT_Fr F e2, RefT_eq e3 ⟨e _ (by omega), fun i _ => ⟨e _ (by omega), e _ (by omega)⟩⟩⟩
  rw [F.2.1 (s + 5) (by show s + 5 < 114; omega) (by omega) (by omega)]
  exact e1
theorem SM_Fr {S : Nat → Bool} {h h2 : Hp} {s : Nat} {τ : Nat → TF} {K : Nat → Int32} (F : Fr S h h2) (hs : s + 13 < 50) (hS : ∀ d, d < 14 → S (s + d) = false) (H : SM τ K h s) : SM τ K h2 s :=
  ⟨StP_fr H.1 (fun d hd => (F.1 (s + d) (by show s + d < 114; omega) (hS d hd)).1), H.2.1, LW_Fr F (by omega) H.2.2 rfl (fun _ _ => rfl)⟩
theorem IM_Fr {S : Nat → Bool} {h h2 : Hp} {τ : Nat → Nat → TF} (F : Fr S h h2) (h44 : S 44 = false) (h87 : S 87 = false) (h88 : S 88 = false) (hS : ∀ j, 16 ≤ j → j < 44 → S j = false) (H : IM τ h) : IM τ h2 := by
  intro i hi
  obtain ⟨e1, e2⟩ := H i hi
  have f44 := (F.1 44 (by decide) h44).1
  have f87 := (F.1 87 (by decide) h87).1
  have f88 := (F.1 88 (by decide) h88).1
  refine ⟨by rw [f44, f88]; exact e1, ?_⟩
  rw [f44, f87]
  rcases e2 with e2 | ⟨e2, e3⟩
  · exact Or.inl e2
  · exact Or.inr ⟨e2, SM_Fr F (by omega) (fun d hd => hS _ (by omega) (by omega)) e3⟩
