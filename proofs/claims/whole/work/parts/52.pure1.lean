/-! the class's state against the reference's kept numbers -/
def StR (K : Nat → Int32) (h : Hp) (s : Nat) : Prop :=
  (∀ i, i < 6 → hI h (s + 1) i = K i) ∧ (∀ i, i < 24 → hI h (s + 2) i = K (6 + i)) ∧ (∀ i, i < 11 → hI h (s + 3) i = K (30 + i)) ∧ (∀ i, i < 50 → hI h (s + 4) i = K (41 + i)) ∧
  (∀ i, i < 6 → hI h (s + 6) i = K (91 + 2 * i) ∧ hI h (s + 7) i = K (92 + 2 * i)) ∧ (∀ i, i < 40 → hI h (s + 8) i = K (121 + i)) ∧
  (∀ i, i < 6 → hI h (s + 9) i = K (103 + 3 * i) ∧ hI h (s + 10) i = K (104 + 3 * i) ∧ hI h (s + 11) i = K (105 + 3 * i)) ∧
  (∀ i, i < 12 → hI h (s + 12) i = K (161 + 2 * i) ∧ hI h (s + 13) i = K (162 + 2 * i)) ∧
  hI h s 13 = K 189 ∧ hI h s 14 = K 190 ∧ hI h s 15 = K 185 ∧ hI h s 16 = K 187 ∧ hI h s 17 = K 186 ∧ hI h s 18 = K 188
theorem wi_nat {x : Int32} {b : Nat} (hb : b < 2 ^ 31) (h : wi x 0 (nI b) = 1) : ∃ k, k ≤ b ∧ x = nI k := by
  obtain ⟨h1, h2⟩ := wi_1.mp h
  obtain ⟨j, hj, rfl⟩ := nI_of (Int32.not_lt.mpr h1)
  exact ⟨j, (nI_leI hj hb).mp h2, rfl⟩
theorem lp_inr {σ τ : Type} {f : σ → Option (σ ⊕ τ)} {s : σ} {t : τ} (h : f s = some (.inr t)) : lp f s = some t := lp_of (n := 1) (by unfold lpn; simp only [h])
theorem lp_inl {σ τ : Type} {f : σ → Option (σ ⊕ τ)} {s s' : σ} (h : f s = some (.inl s')) : lp f s = lp f s' := by
  cases hx : lp f s' with
  | some t =>
    obtain ⟨n, hn⟩ := lp_n hx
    exact lp_of (n := n + 1) (by unfold lpn; simp only [h]; exact hn)
  | none =>
    cases hy : lp f s with
    | none => rfl
    | some t =>
      exfalso
      obtain ⟨n, hn⟩ := lp_n hy
      cases n with
      | zero => cases hn
      | succ n =>
        unfold lpn at hn
        simp only [h] at hn
        have := lp_of hn
        rw [hx] at this
        cases this
/-- whole rows -/
def wI (h : Hp) (j : Nat) (f : Nat → Int32) : Hp := (fun a => if a = j then f else hI h a, h.2)
def wL (h : Hp) (j : Nat) (f : Nat → Int64) : Hp := (h.1, fun a => if a = j then f else hL h a, h.2.2)
theorem hI_wI (h : Hp) (j : Nat) (f : Nat → Int32) : hI (wI h j f) j = f := if_pos rfl
theorem hI_wI_ne {h : Hp} {j a : Nat} {f : Nat → Int32} (ha : a ≠ j) : hI (wI h j f) a = hI h a := if_neg ha
theorem hL_wL (h : Hp) (j : Nat) (f : Nat → Int64) : hL (wL h j f) j = f := if_pos rfl
theorem hL_wL_ne {h : Hp} {j a : Nat} {f : Nat → Int64} (ha : a ≠ j) : hL (wL h j f) a = hL h a := if_neg ha
theorem wI_self (h : Hp) (j : Nat) : wI h j (hI h j) = h := by
  unfold wI
  have : (fun a => if a = j then hI h j else hI h a) = hI h := by
    funext a
    by_cases ha : a = j
    · rw [if_pos ha, ha]
    · rw [if_neg ha]
  rw [this]
  rfl
theorem wL_self (h : Hp) (j : Nat) : wL h j (hL h j) = h := by
  unfold wL
  have : (fun a => if a = j then hL h j else hL h a) = hL h := by
    funext a
    by_cases ha : a = j
    · rw [if_pos ha, ha]
    · rw [if_neg ha]
  rw [this]
  rfl
theorem sI_wI (h : Hp) (j k : Nat) (f : Nat → Int32) (v : Int32) : sI (wI h j f) j k v = wI h j (upd f k v) := by
  unfold sI wI
  have : (fun a => if a = j then upd (hI (wI h j f) a) k v else hI (wI h j f) a) = fun a => if a = j then upd f k v else hI h a := by
    funext a
    by_cases ha : a = j
    · subst ha; rw [if_pos rfl, if_pos rfl, hI_wI]
    · rw [if_neg ha, if_neg ha, hI_wI_ne ha]
  exact congrArg (fun g => (g, h.2)) this
theorem sL_wL (h : Hp) (j k : Nat) (f : Nat → Int64) (v : Int64) : sL (wL h j f) j k v = wL h j (vp_updL f k v) := by
  unfold sL wL
  have : (fun a => if a = j then vp_updL (hL (wL h j f) a) k v else hL (wL h j f) a) = fun a => if a = j then vp_updL f k v else hL h a := by
    funext a
    by_cases ha : a = j
    · subst ha; rw [if_pos rfl, if_pos rfl, hL_wL]
    · rw [if_neg ha, if_neg ha, hL_wL_ne ha]
  exact congrArg (fun g => (h.1, g, h.2.2)) this
theorem ak_some {α : Type} {h : Hp} {r t n : Nat} (hn : nd h r t n) (F : Option α) : ak h r t F = F := by
  unfold ak
  rw [if_pos ⟨hn.2, by rw [hn.1]⟩]
theorem ln_of {h : Hp} {r t n : Nat} (hn : nd h r t n) : ln h r = n := by rw [ln, hn.1]
theorem ib_nI {α : Type} {k n : Nat} (hk : k < n) (hn : n < 2 ^ 31) (F : Option α) : ib (nI k) n F = F := ib_some F (by rw [Int32.not_lt]; exact nI_le (a := 0) (Nat.zero_le _) (by omega)) (by rw [ix, nI_clamp (by omega)]; exact hk)
/-- Arrays.fill of longs -/
theorem p_fillL {h : Hp} {r n : Nat} {v : Int64} (hr : nd h r 1 n) (hn : n < 2 ^ 31) : s_Arr_fillL r v h = some (wL h r (fun k => if k < n then v else hL h r k)) := by
  have key : ∀ (m k : Nat), k + m = n → lp (fun q : Nat × Int64 × Int32 × Int32 × Hp => s_Arr_fillL_6 q.1 q.2.1 q.2.2.1 q.2.2.2.1 q.2.2.2.2) (r, v, nI k, nI n, wL h r (fun j => if j < k then v else hL h r j)) = some (wL h r (fun j => if j < n then v else hL h r j)) := by
    intro m
    induction m with
    | zero =>
      intro k hk
      have hk : k = n := by omega
      subst hk
      refine lp_inr ?_
      show s_Arr_fillL_6 r v (nI k) (nI k) _ = _
      unfold s_Arr_fillL_6
      rw [if_pos (nI_le (Nat.le_refl _) (by omega))]
    | succ m ih =>
      intro k hk
      have hr' : nd (wL h r (fun j => if j < k then v else hL h r j)) r 1 n := hr
      rw [lp_inl (s' := (r, v, nI (k + 1), nI n, wL h r (fun j => if j < k + 1 then v else hL h r j))) ?_]
      · exact ih (k + 1) (by omega)
      · show s_Arr_fillL_6 r v (nI k) (nI n) _ = _
        unfold s_Arr_fillL_6
        rw [if_neg (by rw [nI_leI (by omega) (by omega)]; omega), ak_some hr', ln_of hr', ib_nI (by omega) hn, sL_wL, nI_1, ix, nI_clamp (by omega)]
        have : vp_updL (fun j => if j < k then v else hL h r j) k v = fun j => if j < k + 1 then v else hL h r j := by
          funext j
          unfold vp_updL
          by_cases hj : j = k
          · rw [if_pos hj, if_pos (by omega)]
          · rw [if_neg hj]
            show (if j < k then v else hL h r j) = _
            by_cases hl : j < k
            · rw [if_pos hl, if_pos (by omega)]
            · rw [if_neg hl, if_neg (by omega)]
        rw [this]
  unfold s_Arr_fillL
  rw [ak_some hr, ln_of hr]
  have := key n 0 (by omega)
  have e0 : (fun j => if j < 0 then v else hL h r j) = hL h r := funext fun j => if_neg (Nat.not_lt_zero j)
  rw [e0, wL_self] at this
  exact this
/-- what a new level, a new flow makes old -/
def fgW (h : Hp) : Hp := wL (sI (sI (sI (sI h 50 10 0) 50 11 0) 50 12 (-1)) 50 13 (-1)) 56 (fun k => if k < 21 then -1 else hL h 56 k)
def fgF (h : Hp) : Hp := sI (sI (sI (sI (fgW h) 58 12 0) 69 8 0) 74 5 (-1)) 78 4 0
def fgL (h : Hp) : Hp := fgF (sI h 50 9 0)
theorem p_forgetW (h : Hp) : s_Water_forgetFlows h = some (fgW h) := by
  simp only [s_Water_forgetFlows, lt]
  rw [p_fillL (n := 21) (nd_of (by decide) rfl) (by decide)]
  rfl
theorem p_forgetFlows (h : Hp) : s_Race_forgetFlows h = some (fgF h) := by
  simp only [s_Race_forgetFlows, p_forgetW, Option.bind_some, lt]
  rfl
theorem p_forgetLevels (h : Hp) : s_Race_forgetLevels h = some (fgL h) := by
  simp only [s_Race_forgetLevels, p_forgetFlows, Option.bind_some]
  rfl
theorem p_grant (v : Int32) (h : Hp) : s_Race_grant v h = some (v, sI h 0 12 0) := rfl
/-- a refusal, on both sides -/
def rfI (v : Int32) : Nat := if v = -1 then 0 else if v = -2 then 1 else if v = -5 then 2 else 3
def rfC (h : Hp) (v : Int32) : Hp := sI (sI h 0 12 v) 83 (rfI v) (hI h 83 (rfI v) + 1)
def rfR (h : Hp) (v : Int32) : Hp := sI (sI h 84 0 v) 85 (ix (-v)) (hI h 85 (ix (-v)) + 1)
theorem p_refuse (v : Int32) (h : Hp) : s_Race_refuse v h = some (v, rfC h v) := by
  have key : ∀ (k : Int32) (m : Nat), ¬ k < 0 → ix k = m → m < 4 → s_Race_refuse_35 v k (sI h 0 12 v) = some (v, sI (sI h 0 12 v) 83 m (hI h 83 m + 1)) := by
    intro k m h0 h1 h2
    unfold s_Race_refuse_35
    rw [ib_some _ h0 (by omega), ib_some _ h0 (by omega), h1, hI_sI_ne (by decide)]
  unfold s_Race_refuse rfC rfI
  split
  · exact key 0 0 (by decide) (by decide) (by decide)
  · split
    · exact key 1 1 (by decide) (by decide) (by decide)
    · split
      · exact key 2 2 (by decide) (by decide) (by decide)
      · exact key 3 3 (by decide) (by decide) (by decide)
/-- Arrays.fill of ints -/
theorem p_fillI {h : Hp} {r n : Nat} {v : Int32} (hr : nd h r 0 n) (hn : n < 2 ^ 31) : s_Arr_fillI r v h = some (wI h r (fun k => if k < n then v else hI h r k)) := by
  have key : ∀ (m k : Nat), k + m = n → lp (fun q : Nat × Int32 × Int32 × Int32 × Hp => s_Arr_fillI_5 q.1 q.2.1 q.2.2.1 q.2.2.2.1 q.2.2.2.2) (r, v, nI k, nI n, wI h r (fun j => if j < k then v else hI h r j)) = some (wI h r (fun j => if j < n then v else hI h r j)) := by
    intro m
    induction m with
    | zero =>
      intro k hk
      have hk : k = n := by omega
      subst hk
      refine lp_inr ?_
      show s_Arr_fillI_5 r v (nI k) (nI k) _ = _
      unfold s_Arr_fillI_5
      rw [if_pos (nI_le (Nat.le_refl _) (by omega))]
    | succ m ih =>
      intro k hk
      have hr' : nd (wI h r (fun j => if j < k then v else hI h r j)) r 0 n := hr
      rw [lp_inl (s' := (r, v, nI (k + 1), nI n, wI h r (fun j => if j < k + 1 then v else hI h r j))) ?_]
      · exact ih (k + 1) (by omega)
      · show s_Arr_fillI_5 r v (nI k) (nI n) _ = _
        unfold s_Arr_fillI_5
        rw [if_neg (by rw [nI_leI (by omega) (by omega)]; omega), ak_some hr', ln_of hr', ib_nI (by omega) hn, sI_wI, nI_1, ix, nI_clamp (by omega)]
        have : upd (fun j => if j < k then v else hI h r j) k v = fun j => if j < k + 1 then v else hI h r j := by
          funext j
          unfold upd
          by_cases hj : j = k
          · rw [if_pos hj, if_pos (by omega)]
          · rw [if_neg hj]
            show (if j < k then v else hI h r j) = _
            by_cases hl : j < k
            · rw [if_pos hl, if_pos (by omega)]
            · rw [if_neg hl, if_neg (by omega)]
        rw [this]
  unfold s_Arr_fillI
  rw [ak_some hr, ln_of hr]
  have := key n 0 (by omega)
  have e0 : (fun j => if j < 0 then v else hI h r j) = hI h r := funext fun j => if_neg (Nat.not_lt_zero j)
  rw [e0, wI_self] at this
  exact this
/-- sea: both sides -/
def seaLo (w : Int32) : Int32 := [-500, 0, -5].getD (ix w) 0
def seaHi (w : Int32) : Int32 := [500, 3, 5].getD (ix w) 0
theorem C_sea_no {x1 x2 x3 : Int32} (h : Hp) (hb : ¬ (wi x1 0 1 = 1 ∧ wi x2 0 2 = 1 ∧ wi x3 (seaLo x2) (seaHi x2) = 1)) : s_Race_sea x1 x2 x3 h = some (-1, rfC h (-1)) := by
  have e35 : s_Race_sea_35 h = some (-1, rfC h (-1)) := by simp only [s_Race_sea_35, p_refuse, Option.bind_some]
  simp only [s_Race_sea, p_within, Option.bind_some, e35]
  rcases wi_or x1 0 1 with h1 | h1
  · rw [if_pos h1]
  · rw [if_neg (by rw [h1]; decide)]
    rcases wi_or x2 0 2 with h2 | h2
    · rw [if_pos h2]
    · rw [if_neg (by rw [h2]; decide)]
      obtain ⟨k, hk, rfl⟩ := wi_nat (b := 2) (by decide) h2
      rw [ib_nI (by omega) (by decide), ib_nI (by omega) (by decide)]
      rcases wi_or x3 (seaLo (nI k)) (seaHi (nI k)) with h3 | h3
      · exact if_pos h3
      · exact absurd ⟨h1, h2, h3⟩ hb
theorem C_sea_yes {k1 k2 : Nat} {x3 : Int32} (h : Hp) (h1 : k1 ≤ 1) (h2 : k2 ≤ 2) (h3 : wi x3 (seaLo (nI k2)) (seaHi (nI k2)) = 1) : s_Race_sea (nI k1) (nI k2) x3 h = some (hI h 2 (3 * k1 + k2), sI (fgL (sI h 2 (3 * k1 + k2) x3)) 0 12 0) := by
  have w1 : wi (nI k1) 0 1 = 1 := wi_1.mpr ⟨nI_le (a := 0) (Nat.zero_le _) (by omega), nI_le (b := 1) h1 (by omega)⟩
  have w2 : wi (nI k2) 0 2 = 1 := wi_1.mpr ⟨nI_le (a := 0) (Nat.zero_le _) (by omega), nI_le (b := 2) h2 (by omega)⟩
  have e : nI k1 * 3 + nI k2 = nI (3 * k1 + k2) := by
    rcases (show k1 = 0 ∨ k1 = 1 by omega) with rfl | rfl <;> rcases (show k2 = 0 ∨ k2 = 1 ∨ k2 = 2 by omega) with rfl | rfl | rfl <;> decide
  simp only [s_Race_sea, p_within, Option.bind_some, w1, w2, p_forgetLevels, p_grant]
  rw [if_neg (by decide), if_neg (by decide), ib_nI (by omega) (by decide), ib_nI (by omega) (by decide)]
  rw [show wi x3 ([-500, 0, -5].getD (ix (nI k2)) 0) ([500, 3, 5].getD (ix (nI k2)) 0) = 1 from h3, if_neg (by decide), e, ib_nI (by omega) (by decide), ib_nI (by omega) (by decide), ix, nI_clamp (by omega)]
