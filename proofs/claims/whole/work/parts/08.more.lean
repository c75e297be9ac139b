section alens
variable {G : jG} {X : jX} {cc : ByteArray} {nL : Nat} {own : String} {fr lo : Nat} {pc : Nat} {L L' : List (Nat × Value)} {st : List Value} {h : Hp}
theorem j_alenZ (C : jC G X cc nL own fr lo) {n j : Nat} (v : Int32) (hj : nd h j 2 n) (hv : Int32.ofNat n = v) (d : decode cc pc = .ok (.arraylength, 1)) (K : J G X (pc + 1) L (.int v :: st) h) : J G X pc L (.ref (G.1 + j) :: st) h :=
  J_mk K.1 fun Y y H locs ls a1 a2 a3 a4 a5 => va_alen (C Y y).x (C Y y).b (C Y y).kn.1 a1 j 2 (a1.at hj (ce_i hj.1 (by omega) (by omega))) rfl hv d (K.2 Y y H locs ls a1 a2 a3 a4 a5)
theorem j_alenB (C : jC G X cc nL own fr lo) {n j : Nat} (v : Int32) (hj : nd h j 3 n) (hv : Int32.ofNat n = v) (d : decode cc pc = .ok (.arraylength, 1)) (K : J G X (pc + 1) L (.int v :: st) h) : J G X pc L (.ref (G.1 + j) :: st) h :=
  J_mk K.1 fun Y y H locs ls a1 a2 a3 a4 a5 => va_alen (C Y y).x (C Y y).b (C Y y).kn.1 a1 j 3 (a1.at hj (ce_i hj.1 (by omega) (by omega))) rfl hv d (K.2 Y y H locs ls a1 a2 a3 a4 a5)
end alens

