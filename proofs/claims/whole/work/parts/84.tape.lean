/-! the tape: bytes -/
theorem z_nb_i2b (x : Int32) : z_nb (z_i2b x) = z_i2b x := pk_vb x
theorem byt_n (v : Int32) : ∃ b, b < 256 ∧ v &&& 255 = nI b := by
  have h : (v &&& 255).toInt = v.toInt % 2 ^ 8 := Jvm.Kit.i32_mask v 255 (by decide) (by decide)
  refine ⟨(v.toInt % 256).toNat, by omega, Int32.toInt_inj.mp ?_⟩
  rw [nI_toInt (by omega)]
  omega
theorem byt_bv (b : BitVec 32) (s : Nat) (hs : s ≤ 24) : (b.sshiftRight s).signExtend 8 = ((b >>> s) &&& 255#32).signExtend 8 := by
  rw [BitVec.signExtend_eq_setWidth_of_le _ (by decide), BitVec.signExtend_eq_setWidth_of_le _ (by decide)]
  apply BitVec.eq_of_getLsbD_eq
  intro i hi
  have h255 : (255#32).getLsbD i = true := by
    rcases (show i = 0 ∨ i = 1 ∨ i = 2 ∨ i = 3 ∨ i = 4 ∨ i = 5 ∨ i = 6 ∨ i = 7 by omega) with rfl | rfl | rfl | rfl | rfl | rfl | rfl | rfl <;> decide
  rw [BitVec.getLsbD_setWidth, BitVec.getLsbD_setWidth, BitVec.getLsbD_and, BitVec.getLsbD_ushiftRight, h255, Bool.and_true, BitVec.getLsbD_sshiftRight]
  have : i < 32 := by omega
  simp [show s + i < 32 by omega, show ¬ 32 ≤ i by omega]
theorem byt_eq (v : Int32) {s : Nat} (hs : s = 0 ∨ s = 8 ∨ s = 16 ∨ s = 24) : z_i2b (z_shr v (nI s)) = z_i2b (z_ushr v (nI s) &&& 255) := by
  unfold z_i2b
  congr 1
  apply Int8.toBitVec_inj.mp
  rcases hs with rfl | rfl | rfl | rfl
  · exact byt_bv v.toBitVec 0 (by decide)
  · exact byt_bv v.toBitVec 8 (by decide)
  · exact byt_bv v.toBitVec 16 (by decide)
  · exact byt_bv v.toBitVec 24 (by decide)
