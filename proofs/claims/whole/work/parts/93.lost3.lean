/-! lost: the loops, the calls -/
def eqD (a b : Nat) (h g : Hp) : Prop := g.1 = h.1 ∧ g.2.2 = h.2.2 ∧ ∀ j, j ≠ a → j ≠ b → hL g j = hL h j
theorem eqD_V {a b r : Nat} {h g g2 : Hp} (E : eqD a b h g) (V : eqV r g g2) (hr : r = a ∨ r = b) : eqD a b h g2 := ⟨V.1.trans E.1, V.2.1.trans E.2.1, fun j h1 h2 => (V.2.2 j (by omega)).trans (E.2.2 j h1 h2)⟩
theorem p_chance72 {T : TF} {K : Nat → Int32} {h : Hp} {st n w k now nxt : Nat} {W : Int64} {v : Nat → Nat} (stt : StP K h 1) (rg : Rg K) (hrow : ∀ i, i < 1440 → hI h 57 i = td0 T (mk pF K) i) (hnn : now ≠ nxt) (n1 : nd h now 1 52) (n2 : nd h nxt 1 52) (hk : st + k < 144) (hb : ∀ j, j < 52 → v j < 9223372036854775808) :
    ∀ (q c : Nat) (g : Hp), c + q = 50 → eqD now nxt h g → VA g now v → VA g nxt (spF T K (10 * (st + k)) v c) → ∃ g2, lp (fun q : Int32 × Int32 × Int32 × Nat × Nat × Int64 × Int32 × Int32 × Hp => s_Drift_chance_72 q.1 q.2.1 q.2.2.1 q.2.2.2.1 q.2.2.2.2.1 q.2.2.2.2.2.1 q.2.2.2.2.2.2.1 q.2.2.2.2.2.2.2.1 q.2.2.2.2.2.2.2.2) (nI st, nI n, nI w, now, nxt, W, nI k, nI c, g) = some (.inl (nI st, nI n, nI w, nxt, now, W * 200, nI (k + 1), g2)) ∧ eqD now nxt h g2 ∧ VA g2 nxt (spF T K (10 * (st + k)) v 50) := by
  intro q
  induction q with
  | zero =>
    intro c g hc E V1 V2
    have hc : c = 50 := by omega
    subst hc
    refine ⟨g, lp_inr ?_, E, V2⟩
    show s_Drift_chance_72 (nI st) (nI n) (nI w) now nxt W (nI k) (nI 50) g = _
    unfold s_Drift_chance_72
    rw [if_pos (show (50 : Int32) ≤ nI 50 by decide), nI_1]
  | succ q ih =>
    intro c g hc E V1 V2
    have hI_ : hI g = hI h := E.1
    have m1 : nd g now 1 52 := nd_eq E.2.1 n1
    have m2 : nd g nxt 1 52 := nd_eq E.2.1 n2
    have sg : StP K g 1 := fun j hj => by rw [hI_]; exact stt j hj
    have em : (nI st + nI k) * 10 = nI (10 * (st + k)) := by rw [nI_add, show (10 : Int32) = nI 10 from rfl, nI_mul, Nat.mul_comm]
    have vc := V1 c (by omega)
    by_cases z : v c = 0
    · have e : spF T K (10 * (st + k)) v (c + 1) = spF T K (10 * (st + k)) v c := by rw [spF, if_pos z]
      obtain ⟨g2, a1, a2⟩ := ih (c + 1) g (by omega) E V1 (by rw [e]; exact V2)
      refine ⟨g2, ?_, a2⟩
      rw [lp_inl (s' := (nI st, nI n, nI w, now, nxt, W, nI k, nI (c + 1), g)) ?_]
      · exact a1
      · show s_Drift_chance_72 (nI st) (nI n) (nI w) now nxt W (nI k) (nI c) g = _
        unfold s_Drift_chance_72 s_Drift_chance_109
        rw [if_neg (by rw [show (50 : Int32) = nI 50 from rfl, nI_leI (by decide) (by omega)]; omega), ak_some m1, ln_of m1, ib_nI (by omega) (by decide), show ix (nI c) = c from nI_clamp (by omega), vc, z, if_pos (show lg_cmp (l6 0) 0 = 0 from (lg_cmp_eq _ _).mpr rfl), nI_1]
    · have e : spF T K (10 * (st + k)) v (c + 1) = sp1 K (fa (mk pF K) (td0 T (mk pF K)) (K (41 + c)) (10 * (st + k))) c (v c) (spF T K (10 * (st + k)) v c) := by rw [spF, if_neg z]
      obtain ⟨g1, b1, b2, b3⟩ := p_spread (x := v c) sg rg (row := td0 T (mk pF K)) (fun i hi => by rw [hI_]; exact hrow i hi) (fa_b rg (K (41 + c)) (10 * (st + k))) (by omega) m2 (show c < 50 by omega) V2
      obtain ⟨g2, a1, a2⟩ := ih (c + 1) g1 (by omega) (eqD_V E b2 (Or.inr rfl)) (fun j hj => by rw [b2.2.2 now hnn]; exact V1 j hj) (by rw [e]; exact b3)
      refine ⟨g2, ?_, a2⟩
      rw [lp_inl (s' := (nI st, nI n, nI w, now, nxt, W, nI k, nI (c + 1), g1)) ?_]
      · exact a1
      · show s_Drift_chance_72 (nI st) (nI n) (nI w) now nxt W (nI k) (nI c) g = _
        unfold s_Drift_chance_72 s_Drift_chance_109
        rw [if_neg (by rw [show (50 : Int32) = nI 50 from rfl, nI_leI (by decide) (by omega)]; omega), ak_some m1, ln_of m1, ib_nI (by omega) (by decide), show ix (nI c) = c from nI_clamp (by omega), vc, if_neg (show ¬ lg_cmp (l6 (v c)) 0 = 0 from fun y => z ((l6_eq (b := 0) (hb c (by omega)) (by decide)).mp (show l6 (v c) = l6 0 from (lg_cmp_eq _ _).mp y))), ak_some m1, ib_nI (by omega) (by decide), em, b1, Option.bind_some, nI_1]
theorem lsA_C {a n : Nat} (ha : a ≤ 200 ^ n) (hn : n ≤ 6) : (1000000 < 200 ^ n → a / (200 ^ n / 1000000) = lsA a n) ∧ (¬ 1000000 < 200 ^ n → a * (1000000 / 200 ^ n) = lsA a n) := by
  unfold lsA
  rcases (show n = 0 ∨ n = 1 ∨ n = 2 ∨ n = 3 ∨ n = 4 ∨ n = 5 ∨ n = 6 by omega) with rfl | rfl | rfl | rfl | rfl | rfl | rfl <;> refine ⟨fun z => ?_, fun z => ?_⟩ <;> omega
theorem p_chance29 {T : TF} {K : Nat → Int32} {h : Hp} {st n w cell : Nat} (stt : StP K h 1) (rg : Rg K) (hrow : ∀ i, i < 1440 → hI h 57 i = td0 T (mk pF K) i) (hc : cell < 50) (hn : n ≤ 6) (hst : st + n < 144) (hw : w < 52) :
    ∀ (q k now nxt : Nat) (g : Hp), k + q = n → now ≠ nxt → nd h now 1 52 → nd h nxt 1 52 → eqD now nxt h g → VA g now (vcF T K cell st k) → ∃ g2, lp (fun q : Int32 × Int32 × Int32 × Nat × Nat × Int64 × Int32 × Hp => s_Drift_chance_29 q.1 q.2.1 q.2.2.1 q.2.2.2.1 q.2.2.2.2.1 q.2.2.2.2.2.1 q.2.2.2.2.2.2.1 q.2.2.2.2.2.2.2) (nI st, nI n, nI w, now, nxt, l6 (200 ^ k), nI k, g) = some (Int64.toInt32 (l6 (lsA (vcF T K cell st n w) n)), g2) ∧ eqD now nxt h g2 := by
  intro q
  induction q with
  | zero =>
    intro k now nxt g hk hnn n1 n2 E V
    have hk : k = n := by omega
    subst hk
    have m1 : nd g now 1 52 := nd_eq E.2.1 n1
    obtain ⟨b1, b2⟩ := vcF_b (T := T) (K := K) (step := st) hc hn hw
    have lc := lsA_C b1 hn
    refine ⟨g, lp_inr ?_, E⟩
    show s_Drift_chance_29 (nI st) (nI k) (nI w) now nxt (l6 (200 ^ k)) (nI k) g = _
    unfold s_Drift_chance_29 s_Drift_chance_177
    have pw : 0 < (200 : Nat) ^ k := Nat.pow_pos (by decide)
    rw [if_pos (Int32.le_refl _), ak_some m1, ln_of m1, ib_nI hw (by decide), show ix (nI w) = w from nI_clamp (by omega), V w hw, ak_some m1, ib_nI hw (by decide)]
    by_cases z : 1000000 < 200 ^ k
    · rw [if_pos (show 0 < lg_cmp (l6 (200 ^ k)) 1000000 from (lg_cmp_gt _ _).mpr ((l6_lt (a := 1000000) (by decide) (by omega)).mpr z)), show (1000000 : Int64) = l6 1000000 from rfl, l6_div (by omega) (by decide), cnL_some (fun y => by
        have := (l6_eq (b := 0) (by have := Nat.div_le_self (200 ^ k) 1000000; omega) (by decide)).mp y
        have h2 : 1 ≤ 200 ^ k / 1000000 := Nat.div_pos (by omega) (by decide)
        omega), l6_div (by omega) (by have := Nat.div_le_self (200 ^ k) 1000000; omega), lc.1 z]
      rfl
    · rw [if_neg (show ¬ 0 < lg_cmp (l6 (200 ^ k)) 1000000 from fun y => z ((l6_lt (a := 1000000) (by decide) (by omega)).mp (show l6 1000000 < l6 (200 ^ k) from (lg_cmp_gt _ _).mp y))), cnL_some (fun y => by
        have := (l6_eq (b := 0) (by omega) (by decide)).mp y
        omega), show (1000000 : Int64) = l6 1000000 from rfl, l6_div (by decide) (by omega), l6_mul, lc.2 z]
      rfl
  | succ q ih =>
    intro k now nxt g hk hnn n1 n2 E V
    have m1 : nd g now 1 52 := nd_eq E.2.1 n1
    have m2 : nd g nxt 1 52 := nd_eq E.2.1 n2
    have E1 : eqV nxt g (wL g nxt (fun j => if j < 52 then 0 else hL g nxt j)) := ⟨rfl, rfl, fun j hj => hL_wL_ne hj⟩
    have l1 : hL (wL g nxt (fun j => if j < 52 then 0 else hL g nxt j)) now = hL g now := hL_wL_ne hnn
    have E2 : eqV nxt g (sL (wL g nxt (fun j => if j < 52 then 0 else hL g nxt j)) nxt 50 (hL g now 50 * 200)) := eqV_sL E1
    have E3 : eqV nxt g (sL (sL (wL g nxt (fun j => if j < 52 then 0 else hL g nxt j)) nxt 50 (hL g now 50 * 200)) nxt 51 (hL g now 51 * 200)) := eqV_sL E2
    have V2 : VA (sL (sL (wL g nxt (fun j => if j < 52 then 0 else hL g nxt j)) nxt 50 (hL g now 50 * 200)) nxt 51 (hL g now 51 * 200)) nxt (spF T K (10 * (st + k)) (vcF T K cell st k) 0) := by
      intro j hj
      rw [hL_sL]
      show (if j = 51 then hL g now 51 * 200 else hL (sL (wL g nxt (fun j => if j < 52 then 0 else hL g nxt j)) nxt 50 (hL g now 50 * 200)) nxt j) = l6 (if j < 50 then 0 else vcF T K cell st k j * 200)
      by_cases z : j = 51
      · subst z
        rw [if_pos rfl, if_neg (by decide), V 51 (by decide), show (200 : Int64) = l6 200 from rfl, l6_mul]
      · rw [if_neg z, hL_sL]
        show (if j = 50 then hL g now 50 * 200 else hL (wL g nxt (fun j => if j < 52 then 0 else hL g nxt j)) nxt j) = _
        by_cases y : j = 50
        · subst y
          rw [if_pos rfl, if_neg (by decide), V 50 (by decide), show (200 : Int64) = l6 200 from rfl, l6_mul]
        · rw [if_neg y, hL_wL, if_pos hj, if_pos (by omega)]
          rfl
    have bb : ∀ j, j < 52 → vcF T K cell st k j < 9223372036854775808 := fun j hj => by
      have := vcF_b (T := T) (K := K) (step := st) hc (show k ≤ 6 by omega) hj
      omega
    obtain ⟨g2, a1, a2, a3⟩ := p_chance72 (n := n) (w := w) (W := l6 (200 ^ k)) stt rg hrow hnn n1 n2 (show st + k < 144 by omega) bb 50 0 _ (by decide) (eqD_V E E3 (Or.inr rfl)) (fun j hj => by rw [E3.2.2 now hnn]; exact V j hj) V2
    have pw : l6 (200 ^ k) * 200 = l6 (200 ^ (k + 1)) := by rw [show (200 : Int64) = l6 200 from rfl, l6_mul, Nat.pow_succ]
    rw [pw] at a1
    obtain ⟨g3, b1, b2⟩ := ih (k + 1) nxt now g2 (by omega) (Ne.symm hnn) n2 n1 ⟨a2.1, a2.2.1, fun j h1 h2 => a2.2.2 j h2 h1⟩ a3
    refine ⟨g3, ?_, ⟨b2.1, b2.2.1, fun j h1 h2 => b2.2.2 j h2 h1⟩⟩
    rw [lp_inl (s' := (nI st, nI n, nI w, nxt, now, l6 (200 ^ (k + 1)), nI (k + 1), g2)) ?_]
    · exact b1
    · show s_Drift_chance_29 (nI st) (nI n) (nI w) now nxt (l6 (200 ^ k)) (nI k) g = _
      unfold s_Drift_chance_29
      rw [if_neg (by rw [nI_leI (by omega) (by omega)]; omega), p_fillL m2 (by decide), Option.bind_some, ak_some (eqV_nd E1 m1), ln_of (eqV_nd E1 m1), ib_some _ (by decide) (by decide), ak_some (eqV_nd E1 m2), ln_of (eqV_nd E1 m2), ib_some _ (by decide) (by decide), show ix 50 = 50 by decide, l1, lt_eq, ak_some (eqV_nd E2 m1), ln_of (eqV_nd E2 m1), ib_some _ (by decide) (by decide), ak_some (eqV_nd E2 m2), ln_of (eqV_nd E2 m2), ib_some _ (by decide) (by decide), show ix 51 = 51 by decide, hL_sL_ne hnn, l1]
      exact a1
