/-! sets of cells as bits of a long -/
def bt (x : Int64) (c : Nat) : Bool := x.toBitVec.getLsbD c
theorem bt_and (a b : Int64) (c : Nat) : bt (a &&& b) c = (bt a c && bt b c) := by
  unfold bt
  rw [Int64.toBitVec_and, BitVec.getLsbD_and]
theorem bt_or (a b : Int64) (c : Nat) : bt (a ||| b) c = (bt a c || bt b c) := by
  unfold bt
  rw [Int64.toBitVec_or, BitVec.getLsbD_or]
theorem bt_0 (c : Nat) : bt 0 c = false := BitVec.getLsbD_zero
theorem bt_1 : ∀ k : Fin 50, ∀ c : Fin 50, bt (z_lshl 1 (nI k.1)) c.1 = decide (k.1 = c.1) := by decide +kernel
theorem bt_one {k c : Nat} (hk : k < 50) (hc : c < 50) : bt (z_lshl 1 (nI k)) c = decide (k = c) := bt_1 ⟨k, hk⟩ ⟨c, hc⟩
theorem bt_l10 (a : Int64) {c : Nat} (hc : c < 64) : bt (z_lshl a 10) c = (decide (10 ≤ c) && bt a (c - 10)) := by
  unfold bt z_lshl
  rw [show ((10 : Int32).toInt64 &&& 63 : Int64) = 10 by decide, Int64.toBitVec_shiftLeft]
  show (a.toBitVec <<< 10).getLsbD c = _
  rw [BitVec.getLsbD_shiftLeft, decide_eq_true hc]
  by_cases z : c < 10
  · rw [decide_eq_true z, decide_eq_false (p := 10 ≤ c) (by omega)]; rfl
  · rw [decide_eq_false z, decide_eq_true (p := 10 ≤ c) (by omega)]; rfl
theorem bt_l1 (a : Int64) {c : Nat} (hc : c < 64) : bt (z_lshl a 1) c = (decide (1 ≤ c) && bt a (c - 1)) := by
  unfold bt z_lshl
  rw [show ((1 : Int32).toInt64 &&& 63 : Int64) = 1 by decide, Int64.toBitVec_shiftLeft]
  show (a.toBitVec <<< 1).getLsbD c = _
  rw [BitVec.getLsbD_shiftLeft, decide_eq_true hc]
  by_cases z : c < 1
  · rw [decide_eq_true z, decide_eq_false (p := 1 ≤ c) (by omega)]; rfl
  · rw [decide_eq_false z, decide_eq_true (p := 1 ≤ c) (by omega)]; rfl
theorem bt_r10 (a : Int64) (c : Nat) : bt (z_lushr a 10) c = bt a (10 + c) := by
  unfold bt z_lushr
  rw [show ((10 : Int32).toInt64.toUInt64 &&& Int64.toUInt64 63) = 10 by decide]
  show (a.toBitVec >>> 10).getLsbD c = _
  rw [BitVec.getLsbD_ushiftRight]
theorem bt_r1 (a : Int64) (c : Nat) : bt (z_lushr a 1) c = bt a (1 + c) := by
  unfold bt z_lushr
  rw [show ((1 : Int32).toInt64.toUInt64 &&& Int64.toUInt64 63) = 1 by decide]
  show (a.toBitVec >>> 1).getLsbD c = _
  rw [BitVec.getLsbD_ushiftRight]
theorem shr_amt : ∀ c : Fin 50, ((nI c.1).toInt64.toUInt64 &&& Int64.toUInt64 63) = UInt64.ofNat c.1 ∧ ((UInt64.ofNat c.1).toBitVec % 64).toNat = c.1 := by decide +kernel
theorem bt_rc (a : Int64) {c : Nat} (hc : c < 50) (j : Nat) : bt (z_lushr a (nI c)) j = bt a (c + j) := by
  unfold bt z_lushr
  rw [(shr_amt ⟨c, hc⟩).1]
  show (a.toBitVec >>> ((UInt64.ofNat c).toBitVec % 64).toNat).getLsbD j = _
  rw [(shr_amt ⟨c, hc⟩).2, BitVec.getLsbD_ushiftRight]
theorem bt_ext {a b : Int64} (h : ∀ c, c < 64 → bt a c = bt b c) : a = b := by
  apply Int64.toBitVec_inj.mp
  apply BitVec.eq_of_getLsbD_eq
  intro i hi
  exact h i hi
theorem bt_m1 : ∀ c : Fin 64, bt 1 c.1 = decide (c.1 = 0) := by decide +kernel
theorem bt_full : ∀ c : Fin 64, bt 1125899906842623 c.1 = decide (c.1 < 50) := by decide +kernel
theorem bt_on : ∀ c : Fin 50, bt (-563500246630913) c.1 = decide (¬ c.1 % 10 = 9) := by decide +kernel
theorem bt_back : ∀ c : Fin 50, bt (-1100586419202) c.1 = decide (¬ c.1 % 10 = 0) := by decide +kernel
theorem p_has (a : Int64) {c : Nat} (hc : c < 50) (h : Hp) : s_Ways_has a (nI c) h = some (if bt a c then 1 else 0) := by
  unfold s_Ways_has s_Ways_has_15
  have e : z_lushr a (nI c) &&& 1 = if bt a c then 1 else 0 := by
    apply bt_ext
    intro j hj
    rw [bt_and, bt_rc a hc, bt_m1 ⟨j, hj⟩]
    show (bt a (c + j) && decide (j = 0)) = _
    by_cases z : j = 0
    · rw [z, Nat.add_zero, decide_eq_true rfl, Bool.and_true]
      cases hb : bt a c
      · rfl
      · rfl
    · rw [decide_eq_false z, Bool.and_false]
      cases bt a c
      · exact (bt_0 j).symm
      · exact ((bt_m1 ⟨j, hj⟩).trans (decide_eq_false z)).symm
  rw [e]
  cases bt a c
  · rw [if_neg (show ¬ false = true by decide), if_neg (show ¬ false = true by decide), if_pos (by decide), bz_0]
  · rw [if_pos rfl, if_pos rfl, if_neg (by decide), bz_1]
