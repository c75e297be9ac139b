/-! THE CLAIM OUT OF ONE WALK OF THE LAW'S BODY. Your part is whole_start (and what it stands on); all else here is the same for every law, but numbers. -/
def R_law : String := "SlackRaceLaw"
def lw_P (b : Addr) (xs : List Int32) (args : Array Value) (s : State) : Prop := args = #[.ref b] ∧ s.IntsAt b xs ∧ xs.length ≤ 3072 ∧ (Jvm.Cond.and given_1 narrow_1).before args s = true
def lw_Q (_ : Array Value) (s : State) (o : Outcome) (t : State) : Prop := o = .returned (some (.int 1)) ∧ Framed s o t [] 600000 7302249
def lw_Z (below : List Frame) (a : Array Value) (s : State) : State → Prop := fun t => ∃ o, t.status = .running ∧ Ended t below o ∧ lw_Q a s o t
/-- the law's own end, with 1 on the stack, nothing written that was there before, its room as the claim has it -/
theorem lw_ret {p : Program} {l : Launch} {e : Env} {s : State} {m : MethodId} {below : List Frame} {meth : Method} {c : Code} {b : Nat} (hx : p.tables.exec = Jvm.exec) (hb : c.code = code) (hr : meth.sig.returnType = ret) (hlocks : meth.locks = false) {pc : Nat} {H : Heap} {ls : Array Slot} (hdg : decode code pc = .ok (.ireturn, 1)) : W p l e room_1 s m #[Value.ref b] below meth c H [] 600000 7302249 (lw_Z below #[Value.ref b] s) (F0 m pc ls [.int 1]) := by
  intro T hT X
  obtain ⟨fs, hret, hrun, hended, hW, hframe⟩ := X.leave (v := some (.int 1)) (hlocks := hlocks) (fun h => by rw [hr] at h; cases h)
  have hmeth' : T.vm.method? m = some meth := X.method'
  refine ⟨T.setFrames fs, ?_, .returned (some (.int 1)), hrun, hended, rfl, ⟨_, rfl⟩, hW, hframe⟩
  jvm_step X.here [X.here.top, hx, hb, hdg, hmeth', hr, ret, narrow_b1]
  (try refine ⟨rfl, ?_⟩); (try refine ⟨rfl, ?_⟩)
  first | (intro acts; rw [hret _ acts rfl rfl rfl]) | rw [hret _ _ rfl rfl rfl]
  exact Steps.refl _
/-- what holds at the law's entry: the machine, the code, the tables' words (any of lw_tbl by 'hts w (by decide +kernel)'), the script of L ints xs at the cell b, what the Statement gives of the start (any of its parts by flat_of_before) -/
def lw_At (p : Program) (s : State) (m : MethodId) (meth : Method) (c : Code) (b L : Nat) (xs : Nat → Int32) : Prop :=
  p.tables.exec = Jvm.exec ∧ c.code = code ∧ meth.sig.returnType = ret ∧ c.maxLocals = 4 ∧ s.vm.findClass R_law = some m.cls ∧ (∀ w ∈ lw_tbl, w.before #[Value.ref b] s = true) ∧ va_X b L xs s s.heap ∧ b < s.heap.size ∧ meth.locks = false ∧ (Jvm.Cond.and given_1 narrow_1).before #[Value.ref b] s = true
/-! the law's own rows: its script, its end -/
def jB (G : jG) (X : jX) (b n : Nat) (sx : Nat → Int32) : Prop := b < G.1 ∧ ∀ Y, X.2 = some Y → va_X b n sx (xs Y) (xs Y).heap ∧ b < (xs Y).heap.size
def jZ (G : jG) (X : jX) (b : Nat) : Prop := ∀ Y, X.2 = some Y → xQ Y = lw_Z (xb Y) (xa Y) (xs Y) ∧ xR Y = room_1 ∧ xa Y = #[Value.ref b] ∧ (xM Y).sig.returnType = ret ∧ (xM Y).locks = false ∧ G.1 = (xs Y).heap.size
section lawrows
variable {G : jG} {X : jX} {cc : ByteArray} {nL : Nat} {own : String} {fr lo : Nat} {pc : Nat} {L L' : List (Nat × Value)} {st : List Value} {h : Hp} {α : Type} {F : Option α} {x_ : α} {b n : Nat} {sx : Nat → Int32}
theorem j_scl (C : jC G X cc nL own fr lo) (B : jB G X b n sx) (d : decode cc pc = .ok (.arraylength, 1)) (K : J G X (pc + 1) L (.int (nI n) :: st) h) : J G X pc L (.ref b :: st) h :=
  J_mk K.1 fun Y y H locs ls a1 a2 a3 a4 a5 => va_slen (C Y y).x (C Y y).b (B.2 Y y).1 (B.2 Y y).2 (Nat.not_le.mpr B.1) a2 d (K.2 Y y H locs ls a1 a2 a3 a4 a5)
theorem j_sld (C : jC G X cc nL own fr lo) (B : jB G X b n sx) {i : Int32} (hm : ib i n F = some x_) (d : decode cc pc = .ok (.iaload, 1)) (K : F = some x_ → J G X (pc + 1) L (.int (sx (ix i)) :: st) h) : J G X pc L (.int i :: .ref b :: st) h := by
  obtain ⟨hi, hm⟩ := ib_inv hm
  exact J_mk (K hm).1 fun Y y H locs ls a1 a2 a3 a4 a5 => va_sld (C Y y).x (C Y y).b (B.2 Y y).1 (B.2 Y y).2 (Nat.not_le.mpr B.1) a2 hi d ((K hm).2 Y y H locs ls a1 a2 a3 a4 a5)
theorem j_lawret (C : jC G X code nL own fr lo) (Z : jZ G X b) {v : Int32} (O : v = 1 ∧ hN h ≤ X.1.1 ∧ hS h ≤ X.1.2) (d : decode code pc = .ok (.ireturn, 1)) : J G X pc L [.int v] h := by
  obtain ⟨rfl, o1, o2⟩ := O
  refine J_mk ⟨o1, o2⟩ fun Y y H locs ls a1 a2 a3 a4 a5 => ?_
  obtain ⟨z1, z2, z3, z4, z5, z6⟩ := Z Y y
  have hrc := (C Y y).rc
  have hrs := (C Y y).rs
  rw [z2] at hrc hrs
  have e1 : room_1.cells = 600000 := rfl
  have e2 : room_1.slots = 7302249 := rfl
  rw [e1] at hrc
  rw [e2] at hrs
  rw [z1, z2, z3]
  refine va_forget (fun q hq => by rw [← z6]; exact a2.2.2 q hq) ?_
  refine W.widen (k := 600000) (n := 7302249) (by omega) (by omega) ?_
  exact lw_ret (C Y y).x (C Y y).b z4 z5 d
end lawrows

theorem wd_616 : Cond.code yX11_sea cX11_sea 6 (some .int) ∈ lw_g := gw (wt_3 (List.mem_of_getElem? (i := 28) rfl)) rfl
theorem wd_613 : Cond.methodLink RL 13 yX11_sea ∈ lw_g := gw (wt_3 (List.mem_of_getElem? (i := 25) rfl)) rfl
theorem wd_614 : Cond.instanceMethod yX11_sea ∈ lw_g := gw (wt_3 (List.mem_of_getElem? (i := 26) rfl)) rfl
theorem wd_615 : Cond.selects RX11 yX11_sea yX11_sea ∈ lw_g := gw (wt_3 (List.mem_of_getElem? (i := 27) rfl)) rfl
theorem l_L_13 : cV RL 13 11 RX11 yX11_sea cX11_sea 6 (some .int) 3 := ⟨wd_613, wd_614, wd_615, wd_109, wd_616, by decide +kernel, TX11, _, rfl⟩
theorem wd_1504 : Cond.code yX12_sea cX12_sea 4 (some .int) ∈ lw_g := gw (wt_6 (List.mem_of_getElem? (i := 196) rfl)) rfl
theorem wd_1501 : Cond.methodLink RL 17 yX12_sea ∈ lw_g := gw (wt_6 (List.mem_of_getElem? (i := 193) rfl)) rfl
theorem wd_1502 : Cond.instanceMethod yX12_sea ∈ lw_g := gw (wt_6 (List.mem_of_getElem? (i := 194) rfl)) rfl
theorem wd_1503 : Cond.selects RX12 yX12_sea yX12_sea ∈ lw_g := gw (wt_6 (List.mem_of_getElem? (i := 195) rfl)) rfl
theorem l_L_17 : cV RL 17 12 RX12 yX12_sea cX12_sea 4 (some .int) 3 := ⟨wd_1501, wd_1502, wd_1503, wd_121, wd_1504, by decide +kernel, TX12, _, rfl⟩
theorem wd_647 : Cond.code yX11_moon cX11_moon 7 (some .int) ∈ lw_g := gw (wt_3 (List.mem_of_getElem? (i := 59) rfl)) rfl
theorem wd_644 : Cond.methodLink RL 18 yX11_moon ∈ lw_g := gw (wt_3 (List.mem_of_getElem? (i := 56) rfl)) rfl
theorem wd_645 : Cond.instanceMethod yX11_moon ∈ lw_g := gw (wt_3 (List.mem_of_getElem? (i := 57) rfl)) rfl
theorem wd_646 : Cond.selects RX11 yX11_moon yX11_moon ∈ lw_g := gw (wt_3 (List.mem_of_getElem? (i := 58) rfl)) rfl
theorem l_L_18 : cV RL 18 11 RX11 yX11_moon cX11_moon 7 (some .int) 4 := ⟨wd_644, wd_645, wd_646, wd_109, wd_647, by decide +kernel, TX11, _, rfl⟩
theorem wd_1515 : Cond.code yX12_moon cX12_moon 5 (some .int) ∈ lw_g := gw (wt_6 (List.mem_of_getElem? (i := 207) rfl)) rfl
theorem wd_1512 : Cond.methodLink RL 22 yX12_moon ∈ lw_g := gw (wt_6 (List.mem_of_getElem? (i := 204) rfl)) rfl
theorem wd_1513 : Cond.instanceMethod yX12_moon ∈ lw_g := gw (wt_6 (List.mem_of_getElem? (i := 205) rfl)) rfl
theorem wd_1514 : Cond.selects RX12 yX12_moon yX12_moon ∈ lw_g := gw (wt_6 (List.mem_of_getElem? (i := 206) rfl)) rfl
theorem l_L_22 : cV RL 22 12 RX12 yX12_moon cX12_moon 5 (some .int) 4 := ⟨wd_1512, wd_1513, wd_1514, wd_121, wd_1515, by decide +kernel, TX12, _, rfl⟩
theorem wd_661 : Cond.code yX11_terms cX11_terms 4 (some .int) ∈ lw_g := gw (wt_3 (List.mem_of_getElem? (i := 73) rfl)) rfl
theorem wd_658 : Cond.methodLink RL 23 yX11_terms ∈ lw_g := gw (wt_3 (List.mem_of_getElem? (i := 70) rfl)) rfl
theorem wd_659 : Cond.instanceMethod yX11_terms ∈ lw_g := gw (wt_3 (List.mem_of_getElem? (i := 71) rfl)) rfl
theorem wd_660 : Cond.selects RX11 yX11_terms yX11_terms ∈ lw_g := gw (wt_3 (List.mem_of_getElem? (i := 72) rfl)) rfl
theorem l_L_23 : cV RL 23 11 RX11 yX11_terms cX11_terms 4 (some .int) 2 := ⟨wd_658, wd_659, wd_660, wd_109, wd_661, by decide +kernel, TX11, _, rfl⟩
theorem wd_1522 : Cond.code yX12_terms cX12_terms 3 (some .int) ∈ lw_g := gw (wt_6 (List.mem_of_getElem? (i := 214) rfl)) rfl
theorem wd_1519 : Cond.methodLink RL 27 yX12_terms ∈ lw_g := gw (wt_6 (List.mem_of_getElem? (i := 211) rfl)) rfl
theorem wd_1520 : Cond.instanceMethod yX12_terms ∈ lw_g := gw (wt_6 (List.mem_of_getElem? (i := 212) rfl)) rfl
theorem wd_1521 : Cond.selects RX12 yX12_terms yX12_terms ∈ lw_g := gw (wt_6 (List.mem_of_getElem? (i := 213) rfl)) rfl
theorem l_L_27 : cV RL 27 12 RX12 yX12_terms cX12_terms 3 (some .int) 2 := ⟨wd_1519, wd_1520, wd_1521, wd_121, wd_1522, by decide +kernel, TX12, _, rfl⟩
theorem wd_669 : Cond.code yX11_feed cX11_feed 6 (some .int) ∈ lw_g := gw (wt_3 (List.mem_of_getElem? (i := 81) rfl)) rfl
theorem wd_666 : Cond.methodLink RL 28 yX11_feed ∈ lw_g := gw (wt_3 (List.mem_of_getElem? (i := 78) rfl)) rfl
theorem wd_667 : Cond.instanceMethod yX11_feed ∈ lw_g := gw (wt_3 (List.mem_of_getElem? (i := 79) rfl)) rfl
theorem wd_668 : Cond.selects RX11 yX11_feed yX11_feed ∈ lw_g := gw (wt_3 (List.mem_of_getElem? (i := 80) rfl)) rfl
theorem l_L_28 : cV RL 28 11 RX11 yX11_feed cX11_feed 6 (some .int) 5 := ⟨wd_666, wd_667, wd_668, wd_109, wd_669, by decide +kernel, TX11, _, rfl⟩
theorem wd_1537 : Cond.code yX12_feed cX12_feed 7 (some .int) ∈ lw_g := gw (wt_6 (List.mem_of_getElem? (i := 229) rfl)) rfl
theorem wd_1534 : Cond.methodLink RL 32 yX12_feed ∈ lw_g := gw (wt_6 (List.mem_of_getElem? (i := 226) rfl)) rfl
theorem wd_1535 : Cond.instanceMethod yX12_feed ∈ lw_g := gw (wt_6 (List.mem_of_getElem? (i := 227) rfl)) rfl
theorem wd_1536 : Cond.selects RX12 yX12_feed yX12_feed ∈ lw_g := gw (wt_6 (List.mem_of_getElem? (i := 228) rfl)) rfl
theorem l_L_32 : cV RL 32 12 RX12 yX12_feed cX12_feed 7 (some .int) 5 := ⟨wd_1534, wd_1535, wd_1536, wd_121, wd_1537, by decide +kernel, TX12, _, rfl⟩
theorem wd_677 : Cond.code yX11_end cX11_end 2 (some .int) ∈ lw_g := gw (wt_3 (List.mem_of_getElem? (i := 89) rfl)) rfl
theorem wd_674 : Cond.methodLink RL 33 yX11_end ∈ lw_g := gw (wt_3 (List.mem_of_getElem? (i := 86) rfl)) rfl
theorem wd_675 : Cond.instanceMethod yX11_end ∈ lw_g := gw (wt_3 (List.mem_of_getElem? (i := 87) rfl)) rfl
theorem wd_676 : Cond.selects RX11 yX11_end yX11_end ∈ lw_g := gw (wt_3 (List.mem_of_getElem? (i := 88) rfl)) rfl
theorem l_L_33 : cV RL 33 11 RX11 yX11_end cX11_end 2 (some .int) 1 := ⟨wd_674, wd_675, wd_676, wd_109, wd_677, by decide +kernel, TX11, _, rfl⟩
theorem wd_1541 : Cond.code yX12_end cX12_end 2 (some .int) ∈ lw_g := gw (wt_6 (List.mem_of_getElem? (i := 233) rfl)) rfl
theorem wd_1538 : Cond.methodLink RL 37 yX12_end ∈ lw_g := gw (wt_6 (List.mem_of_getElem? (i := 230) rfl)) rfl
theorem wd_1539 : Cond.instanceMethod yX12_end ∈ lw_g := gw (wt_6 (List.mem_of_getElem? (i := 231) rfl)) rfl
theorem wd_1540 : Cond.selects RX12 yX12_end yX12_end ∈ lw_g := gw (wt_6 (List.mem_of_getElem? (i := 232) rfl)) rfl
theorem l_L_37 : cV RL 37 12 RX12 yX12_end cX12_end 2 (some .int) 1 := ⟨wd_1538, wd_1539, wd_1540, wd_121, wd_1541, by decide +kernel, TX12, _, rfl⟩
theorem wd_681 : Cond.code yX11_row cX11_row 3 (some .int) ∈ lw_g := gw (wt_3 (List.mem_of_getElem? (i := 93) rfl)) rfl
theorem wd_678 : Cond.methodLink RL 38 yX11_row ∈ lw_g := gw (wt_3 (List.mem_of_getElem? (i := 90) rfl)) rfl
theorem wd_679 : Cond.instanceMethod yX11_row ∈ lw_g := gw (wt_3 (List.mem_of_getElem? (i := 91) rfl)) rfl
theorem wd_680 : Cond.selects RX11 yX11_row yX11_row ∈ lw_g := gw (wt_3 (List.mem_of_getElem? (i := 92) rfl)) rfl
theorem l_L_38 : cV RL 38 11 RX11 yX11_row cX11_row 3 (some .int) 0 := ⟨wd_678, wd_679, wd_680, wd_109, wd_681, by decide +kernel, TX11, _, rfl⟩
theorem wd_1529 : Cond.code yX12_row cX12_row 5 (some .int) ∈ lw_g := gw (wt_6 (List.mem_of_getElem? (i := 221) rfl)) rfl
theorem wd_1526 : Cond.methodLink RL 42 yX12_row ∈ lw_g := gw (wt_6 (List.mem_of_getElem? (i := 218) rfl)) rfl
theorem wd_1527 : Cond.instanceMethod yX12_row ∈ lw_g := gw (wt_6 (List.mem_of_getElem? (i := 219) rfl)) rfl
theorem wd_1528 : Cond.selects RX12 yX12_row yX12_row ∈ lw_g := gw (wt_6 (List.mem_of_getElem? (i := 220) rfl)) rfl
theorem l_L_42 : cV RL 42 12 RX12 yX12_row cX12_row 5 (some .int) 0 := ⟨wd_1526, wd_1527, wd_1528, wd_121, wd_1529, by decide +kernel, TX12, _, rfl⟩
theorem wd_685 : Cond.code yX11_foul cX11_foul 1 (some .int) ∈ lw_g := gw (wt_3 (List.mem_of_getElem? (i := 97) rfl)) rfl
theorem wd_682 : Cond.methodLink RL 43 yX11_foul ∈ lw_g := gw (wt_3 (List.mem_of_getElem? (i := 94) rfl)) rfl
theorem wd_683 : Cond.instanceMethod yX11_foul ∈ lw_g := gw (wt_3 (List.mem_of_getElem? (i := 95) rfl)) rfl
theorem wd_684 : Cond.selects RX11 yX11_foul yX11_foul ∈ lw_g := gw (wt_3 (List.mem_of_getElem? (i := 96) rfl)) rfl
theorem l_L_43 : cV RL 43 11 RX11 yX11_foul cX11_foul 1 (some .int) 0 := ⟨wd_682, wd_683, wd_684, wd_109, wd_685, by decide +kernel, TX11, _, rfl⟩
theorem wd_1533 : Cond.code yX12_foul cX12_foul 1 (some .int) ∈ lw_g := gw (wt_6 (List.mem_of_getElem? (i := 225) rfl)) rfl
theorem wd_1530 : Cond.methodLink RL 46 yX12_foul ∈ lw_g := gw (wt_6 (List.mem_of_getElem? (i := 222) rfl)) rfl
theorem wd_1531 : Cond.instanceMethod yX12_foul ∈ lw_g := gw (wt_6 (List.mem_of_getElem? (i := 223) rfl)) rfl
theorem wd_1532 : Cond.selects RX12 yX12_foul yX12_foul ∈ lw_g := gw (wt_6 (List.mem_of_getElem? (i := 224) rfl)) rfl
theorem l_L_46 : cV RL 46 12 RX12 yX12_foul cX12_foul 1 (some .int) 0 := ⟨wd_1530, wd_1531, wd_1532, wd_121, wd_1533, by decide +kernel, TX12, _, rfl⟩
theorem wd_689 : Cond.code yX11_law cX11_law 2 (some .int) ∈ lw_g := gw (wt_3 (List.mem_of_getElem? (i := 101) rfl)) rfl
theorem wd_686 : Cond.methodLink RL 47 yX11_law ∈ lw_g := gw (wt_3 (List.mem_of_getElem? (i := 98) rfl)) rfl
theorem wd_687 : Cond.instanceMethod yX11_law ∈ lw_g := gw (wt_3 (List.mem_of_getElem? (i := 99) rfl)) rfl
theorem wd_688 : Cond.selects RX11 yX11_law yX11_law ∈ lw_g := gw (wt_3 (List.mem_of_getElem? (i := 100) rfl)) rfl
theorem l_L_47 : cV RL 47 11 RX11 yX11_law cX11_law 2 (some .int) 0 := ⟨wd_686, wd_687, wd_688, wd_109, wd_689, by decide +kernel, TX11, _, rfl⟩
theorem wd_1545 : Cond.code yX12_law cX12_law 3 (some .int) ∈ lw_g := gw (wt_6 (List.mem_of_getElem? (i := 237) rfl)) rfl
theorem wd_1542 : Cond.methodLink RL 50 yX12_law ∈ lw_g := gw (wt_6 (List.mem_of_getElem? (i := 234) rfl)) rfl
theorem wd_1543 : Cond.instanceMethod yX12_law ∈ lw_g := gw (wt_6 (List.mem_of_getElem? (i := 235) rfl)) rfl
theorem wd_1544 : Cond.selects RX12 yX12_law yX12_law ∈ lw_g := gw (wt_6 (List.mem_of_getElem? (i := 236) rfl)) rfl
theorem l_L_50 : cV RL 50 12 RX12 yX12_law cX12_law 3 (some .int) 0 := ⟨wd_1542, wd_1543, wd_1544, wd_121, wd_1545, by decide +kernel, TX12, _, rfl⟩
theorem wd_862 : Cond.code yX11_fault cX11_fault 1 (some .int) ∈ lw_g := gw (wt_4 (List.mem_of_getElem? (i := 34) rfl)) rfl
theorem wd_859 : Cond.methodLink RL 51 yX11_fault ∈ lw_g := gw (wt_4 (List.mem_of_getElem? (i := 31) rfl)) rfl
theorem wd_860 : Cond.instanceMethod yX11_fault ∈ lw_g := gw (wt_4 (List.mem_of_getElem? (i := 32) rfl)) rfl
theorem wd_861 : Cond.selects RX11 yX11_fault yX11_fault ∈ lw_g := gw (wt_4 (List.mem_of_getElem? (i := 33) rfl)) rfl
theorem l_L_51 : cV RL 51 11 RX11 yX11_fault cX11_fault 1 (some .int) 0 := ⟨wd_859, wd_860, wd_861, wd_109, wd_862, by decide +kernel, TX11, _, rfl⟩
theorem wd_1619 : Cond.code yX12_fault cX12_fault 1 (some .int) ∈ lw_g := gw (wt_7 (List.mem_of_getElem? (i := 71) rfl)) rfl
theorem wd_1616 : Cond.methodLink RL 54 yX12_fault ∈ lw_g := gw (wt_7 (List.mem_of_getElem? (i := 68) rfl)) rfl
theorem wd_1617 : Cond.instanceMethod yX12_fault ∈ lw_g := gw (wt_7 (List.mem_of_getElem? (i := 69) rfl)) rfl
theorem wd_1618 : Cond.selects RX12 yX12_fault yX12_fault ∈ lw_g := gw (wt_7 (List.mem_of_getElem? (i := 70) rfl)) rfl
theorem l_L_54 : cV RL 54 12 RX12 yX12_fault cX12_fault 1 (some .int) 0 := ⟨wd_1616, wd_1617, wd_1618, wd_121, wd_1619, by decide +kernel, TX12, _, rfl⟩
theorem wd_866 : Cond.code yX11_force cX11_force 3 (some .int) ∈ lw_g := gw (wt_4 (List.mem_of_getElem? (i := 38) rfl)) rfl
theorem wd_863 : Cond.methodLink RL 55 yX11_force ∈ lw_g := gw (wt_4 (List.mem_of_getElem? (i := 35) rfl)) rfl
theorem wd_864 : Cond.instanceMethod yX11_force ∈ lw_g := gw (wt_4 (List.mem_of_getElem? (i := 36) rfl)) rfl
theorem wd_865 : Cond.selects RX11 yX11_force yX11_force ∈ lw_g := gw (wt_4 (List.mem_of_getElem? (i := 37) rfl)) rfl
theorem l_L_55 : cV RL 55 11 RX11 yX11_force cX11_force 3 (some .int) 1 := ⟨wd_863, wd_864, wd_865, wd_109, wd_866, by decide +kernel, TX11, _, rfl⟩
theorem wd_1623 : Cond.code yX12_force cX12_force 2 (some .int) ∈ lw_g := gw (wt_7 (List.mem_of_getElem? (i := 75) rfl)) rfl
theorem wd_1620 : Cond.methodLink RL 58 yX12_force ∈ lw_g := gw (wt_7 (List.mem_of_getElem? (i := 72) rfl)) rfl
theorem wd_1621 : Cond.instanceMethod yX12_force ∈ lw_g := gw (wt_7 (List.mem_of_getElem? (i := 73) rfl)) rfl
theorem wd_1622 : Cond.selects RX12 yX12_force yX12_force ∈ lw_g := gw (wt_7 (List.mem_of_getElem? (i := 74) rfl)) rfl
theorem l_L_58 : cV RL 58 12 RX12 yX12_force cX12_force 2 (some .int) 1 := ⟨wd_1620, wd_1621, wd_1622, wd_121, wd_1623, by decide +kernel, TX12, _, rfl⟩
theorem wd_870 : Cond.code yX11_level cX11_level 3 (some .int) ∈ lw_g := gw (wt_4 (List.mem_of_getElem? (i := 42) rfl)) rfl
theorem wd_867 : Cond.methodLink RL 59 yX11_level ∈ lw_g := gw (wt_4 (List.mem_of_getElem? (i := 39) rfl)) rfl
theorem wd_868 : Cond.instanceMethod yX11_level ∈ lw_g := gw (wt_4 (List.mem_of_getElem? (i := 40) rfl)) rfl
theorem wd_869 : Cond.selects RX11 yX11_level yX11_level ∈ lw_g := gw (wt_4 (List.mem_of_getElem? (i := 41) rfl)) rfl
theorem l_L_59 : cV RL 59 11 RX11 yX11_level cX11_level 3 (some .int) 2 := ⟨wd_867, wd_868, wd_869, wd_109, wd_870, by decide +kernel, TX11, _, rfl⟩
theorem wd_1624 : Cond.methodLink RL 62 yX12_level ∈ lw_g := gw (wt_7 (List.mem_of_getElem? (i := 76) rfl)) rfl
theorem l_L_62 : cV RL 62 12 RX12 yX12_level cX12_level 3 (some .int) 2 := ⟨wd_1624, wd_1625, wd_1626, wd_121, wd_1627, by decide +kernel, TX12, _, rfl⟩
theorem wd_898 : Cond.code yX11_flow cX11_flow 2 (some .int) ∈ lw_g := gw (wt_4 (List.mem_of_getElem? (i := 70) rfl)) rfl
theorem wd_895 : Cond.methodLink RL 63 yX11_flow ∈ lw_g := gw (wt_4 (List.mem_of_getElem? (i := 67) rfl)) rfl
theorem wd_896 : Cond.instanceMethod yX11_flow ∈ lw_g := gw (wt_4 (List.mem_of_getElem? (i := 68) rfl)) rfl
theorem wd_897 : Cond.selects RX11 yX11_flow yX11_flow ∈ lw_g := gw (wt_4 (List.mem_of_getElem? (i := 69) rfl)) rfl
theorem l_L_63 : cV RL 63 11 RX11 yX11_flow cX11_flow 2 (some .int) 1 := ⟨wd_895, wd_896, wd_897, wd_109, wd_898, by decide +kernel, TX11, _, rfl⟩
theorem wd_1653 : Cond.code yX12_flow cX12_flow 2 (some .int) ∈ lw_g := gw (wt_7 (List.mem_of_getElem? (i := 105) rfl)) rfl
theorem wd_1650 : Cond.methodLink RL 66 yX12_flow ∈ lw_g := gw (wt_7 (List.mem_of_getElem? (i := 102) rfl)) rfl
theorem wd_1651 : Cond.instanceMethod yX12_flow ∈ lw_g := gw (wt_7 (List.mem_of_getElem? (i := 103) rfl)) rfl
theorem wd_1652 : Cond.selects RX12 yX12_flow yX12_flow ∈ lw_g := gw (wt_7 (List.mem_of_getElem? (i := 104) rfl)) rfl
theorem l_L_66 : cV RL 66 12 RX12 yX12_flow cX12_flow 2 (some .int) 1 := ⟨wd_1650, wd_1651, wd_1652, wd_121, wd_1653, by decide +kernel, TX12, _, rfl⟩
theorem wd_949 : Cond.code yX11_kind cX11_kind 4 (some .int) ∈ lw_g := gw (wt_4 (List.mem_of_getElem? (i := 121) rfl)) rfl
theorem wd_946 : Cond.methodLink RL 67 yX11_kind ∈ lw_g := gw (wt_4 (List.mem_of_getElem? (i := 118) rfl)) rfl
theorem wd_947 : Cond.instanceMethod yX11_kind ∈ lw_g := gw (wt_4 (List.mem_of_getElem? (i := 119) rfl)) rfl
theorem wd_948 : Cond.selects RX11 yX11_kind yX11_kind ∈ lw_g := gw (wt_4 (List.mem_of_getElem? (i := 120) rfl)) rfl
theorem l_L_67 : cV RL 67 11 RX11 yX11_kind cX11_kind 4 (some .int) 2 := ⟨wd_946, wd_947, wd_948, wd_109, wd_949, by decide +kernel, TX11, _, rfl⟩
theorem wd_1763 : Cond.code yX12_kind cX12_kind 3 (some .int) ∈ lw_g := gw (wt_7 (List.mem_of_getElem? (i := 215) rfl)) rfl
theorem wd_1760 : Cond.methodLink RL 70 yX12_kind ∈ lw_g := gw (wt_7 (List.mem_of_getElem? (i := 212) rfl)) rfl
theorem wd_1761 : Cond.instanceMethod yX12_kind ∈ lw_g := gw (wt_7 (List.mem_of_getElem? (i := 213) rfl)) rfl
theorem wd_1762 : Cond.selects RX12 yX12_kind yX12_kind ∈ lw_g := gw (wt_7 (List.mem_of_getElem? (i := 214) rfl)) rfl
theorem l_L_70 : cV RL 70 12 RX12 yX12_kind cX12_kind 3 (some .int) 2 := ⟨wd_1760, wd_1761, wd_1762, wd_121, wd_1763, by decide +kernel, TX12, _, rfl⟩
theorem wd_956 : Cond.code yX11_cell cX11_cell 5 (some .int) ∈ lw_g := gw (wt_4 (List.mem_of_getElem? (i := 128) rfl)) rfl
theorem wd_953 : Cond.methodLink RL 71 yX11_cell ∈ lw_g := gw (wt_4 (List.mem_of_getElem? (i := 125) rfl)) rfl
theorem wd_954 : Cond.instanceMethod yX11_cell ∈ lw_g := gw (wt_4 (List.mem_of_getElem? (i := 126) rfl)) rfl
theorem wd_955 : Cond.selects RX11 yX11_cell yX11_cell ∈ lw_g := gw (wt_4 (List.mem_of_getElem? (i := 127) rfl)) rfl
theorem l_L_71 : cV RL 71 11 RX11 yX11_cell cX11_cell 5 (some .int) 3 := ⟨wd_953, wd_954, wd_955, wd_109, wd_956, by decide +kernel, TX11, _, rfl⟩
theorem wd_1770 : Cond.code yX12_cell cX12_cell 4 (some .int) ∈ lw_g := gw (wt_7 (List.mem_of_getElem? (i := 222) rfl)) rfl
theorem wd_1767 : Cond.methodLink RL 74 yX12_cell ∈ lw_g := gw (wt_7 (List.mem_of_getElem? (i := 219) rfl)) rfl
theorem wd_1768 : Cond.instanceMethod yX12_cell ∈ lw_g := gw (wt_7 (List.mem_of_getElem? (i := 220) rfl)) rfl
theorem wd_1769 : Cond.selects RX12 yX12_cell yX12_cell ∈ lw_g := gw (wt_7 (List.mem_of_getElem? (i := 221) rfl)) rfl
theorem l_L_74 : cV RL 74 12 RX12 yX12_cell cX12_cell 4 (some .int) 3 := ⟨wd_1767, wd_1768, wd_1769, wd_121, wd_1770, by decide +kernel, TX12, _, rfl⟩
theorem wd_971 : Cond.code yX11_slack cX11_slack 4 (some .int) ∈ lw_g := gw (wt_4 (List.mem_of_getElem? (i := 143) rfl)) rfl
theorem wd_968 : Cond.methodLink RL 75 yX11_slack ∈ lw_g := gw (wt_4 (List.mem_of_getElem? (i := 140) rfl)) rfl
theorem wd_969 : Cond.instanceMethod yX11_slack ∈ lw_g := gw (wt_4 (List.mem_of_getElem? (i := 141) rfl)) rfl
theorem wd_970 : Cond.selects RX11 yX11_slack yX11_slack ∈ lw_g := gw (wt_4 (List.mem_of_getElem? (i := 142) rfl)) rfl
theorem l_L_75 : cV RL 75 11 RX11 yX11_slack cX11_slack 4 (some .int) 2 := ⟨wd_968, wd_969, wd_970, wd_109, wd_971, by decide +kernel, TX11, _, rfl⟩
theorem wd_1751 : Cond.code yX12_slack cX12_slack 7 (some .int) ∈ lw_g := gw (wt_7 (List.mem_of_getElem? (i := 203) rfl)) rfl
theorem wd_1748 : Cond.methodLink RL 78 yX12_slack ∈ lw_g := gw (wt_7 (List.mem_of_getElem? (i := 200) rfl)) rfl
theorem wd_1749 : Cond.instanceMethod yX12_slack ∈ lw_g := gw (wt_7 (List.mem_of_getElem? (i := 201) rfl)) rfl
theorem wd_1750 : Cond.selects RX12 yX12_slack yX12_slack ∈ lw_g := gw (wt_7 (List.mem_of_getElem? (i := 202) rfl)) rfl
theorem l_L_78 : cV RL 78 12 RX12 yX12_slack cX12_slack 7 (some .int) 2 := ⟨wd_1748, wd_1749, wd_1750, wd_121, wd_1751, by decide +kernel, TX12, _, rfl⟩
theorem wd_999 : Cond.code yX11_late cX11_late 4 (some .int) ∈ lw_g := gw (wt_4 (List.mem_of_getElem? (i := 171) rfl)) rfl
theorem wd_996 : Cond.methodLink RL 79 yX11_late ∈ lw_g := gw (wt_4 (List.mem_of_getElem? (i := 168) rfl)) rfl
theorem wd_997 : Cond.instanceMethod yX11_late ∈ lw_g := gw (wt_4 (List.mem_of_getElem? (i := 169) rfl)) rfl
theorem wd_998 : Cond.selects RX11 yX11_late yX11_late ∈ lw_g := gw (wt_4 (List.mem_of_getElem? (i := 170) rfl)) rfl
theorem l_L_79 : cV RL 79 11 RX11 yX11_late cX11_late 4 (some .int) 1 := ⟨wd_996, wd_997, wd_998, wd_109, wd_999, by decide +kernel, TX11, _, rfl⟩
theorem wd_1759 : Cond.code yX12_late cX12_late 4 (some .int) ∈ lw_g := gw (wt_7 (List.mem_of_getElem? (i := 211) rfl)) rfl
theorem wd_1756 : Cond.methodLink RL 82 yX12_late ∈ lw_g := gw (wt_7 (List.mem_of_getElem? (i := 208) rfl)) rfl
theorem wd_1757 : Cond.instanceMethod yX12_late ∈ lw_g := gw (wt_7 (List.mem_of_getElem? (i := 209) rfl)) rfl
theorem wd_1758 : Cond.selects RX12 yX12_late yX12_late ∈ lw_g := gw (wt_7 (List.mem_of_getElem? (i := 210) rfl)) rfl
theorem l_L_82 : cV RL 82 12 RX12 yX12_late cX12_late 4 (some .int) 1 := ⟨wd_1756, wd_1757, wd_1758, wd_121, wd_1759, by decide +kernel, TX12, _, rfl⟩
theorem wd_1010 : Cond.code yX11_boat cX11_boat 3 (some .int) ∈ lw_g := gw (wt_4 (List.mem_of_getElem? (i := 182) rfl)) rfl
theorem wd_1007 : Cond.methodLink RL 83 yX11_boat ∈ lw_g := gw (wt_4 (List.mem_of_getElem? (i := 179) rfl)) rfl
theorem wd_1008 : Cond.instanceMethod yX11_boat ∈ lw_g := gw (wt_4 (List.mem_of_getElem? (i := 180) rfl)) rfl
theorem wd_1009 : Cond.selects RX11 yX11_boat yX11_boat ∈ lw_g := gw (wt_4 (List.mem_of_getElem? (i := 181) rfl)) rfl
theorem l_L_83 : cV RL 83 11 RX11 yX11_boat cX11_boat 3 (some .int) 2 := ⟨wd_1007, wd_1008, wd_1009, wd_109, wd_1010, by decide +kernel, TX11, _, rfl⟩
theorem wd_1778 : Cond.code yX12_boat cX12_boat 4 (some .int) ∈ lw_g := gw (wt_7 (List.mem_of_getElem? (i := 230) rfl)) rfl
theorem wd_1775 : Cond.methodLink RL 86 yX12_boat ∈ lw_g := gw (wt_7 (List.mem_of_getElem? (i := 227) rfl)) rfl
theorem wd_1776 : Cond.instanceMethod yX12_boat ∈ lw_g := gw (wt_7 (List.mem_of_getElem? (i := 228) rfl)) rfl
theorem wd_1777 : Cond.selects RX12 yX12_boat yX12_boat ∈ lw_g := gw (wt_7 (List.mem_of_getElem? (i := 229) rfl)) rfl
theorem l_L_86 : cV RL 86 12 RX12 yX12_boat cX12_boat 4 (some .int) 2 := ⟨wd_1775, wd_1776, wd_1777, wd_121, wd_1778, by decide +kernel, TX12, _, rfl⟩
theorem wd_1014 : Cond.code yX11_soonest cX11_soonest 5 (some .int) ∈ lw_g := gw (wt_4 (List.mem_of_getElem? (i := 186) rfl)) rfl
theorem wd_1011 : Cond.methodLink RL 87 yX11_soonest ∈ lw_g := gw (wt_4 (List.mem_of_getElem? (i := 183) rfl)) rfl
theorem wd_1012 : Cond.instanceMethod yX11_soonest ∈ lw_g := gw (wt_4 (List.mem_of_getElem? (i := 184) rfl)) rfl
theorem wd_1013 : Cond.selects RX11 yX11_soonest yX11_soonest ∈ lw_g := gw (wt_4 (List.mem_of_getElem? (i := 185) rfl)) rfl
theorem l_L_87 : cV RL 87 11 RX11 yX11_soonest cX11_soonest 5 (some .int) 4 := ⟨wd_1011, wd_1012, wd_1013, wd_109, wd_1014, by decide +kernel, TX11, _, rfl⟩
theorem wd_1782 : Cond.code yX12_soonest cX12_soonest 5 (some .int) ∈ lw_g := gw (wt_7 (List.mem_of_getElem? (i := 234) rfl)) rfl
theorem wd_1779 : Cond.methodLink RL 90 yX12_soonest ∈ lw_g := gw (wt_7 (List.mem_of_getElem? (i := 231) rfl)) rfl
theorem wd_1780 : Cond.instanceMethod yX12_soonest ∈ lw_g := gw (wt_7 (List.mem_of_getElem? (i := 232) rfl)) rfl
theorem wd_1781 : Cond.selects RX12 yX12_soonest yX12_soonest ∈ lw_g := gw (wt_7 (List.mem_of_getElem? (i := 233) rfl)) rfl
theorem l_L_90 : cV RL 90 12 RX12 yX12_soonest cX12_soonest 5 (some .int) 4 := ⟨wd_1779, wd_1780, wd_1781, wd_121, wd_1782, by decide +kernel, TX12, _, rfl⟩
theorem wd_1055 : Cond.code yX11_way cX11_way 6 (some .int) ∈ lw_g := gw (wt_4 (List.mem_of_getElem? (i := 227) rfl)) rfl
theorem wd_1052 : Cond.methodLink RL 91 yX11_way ∈ lw_g := gw (wt_4 (List.mem_of_getElem? (i := 224) rfl)) rfl
theorem wd_1053 : Cond.instanceMethod yX11_way ∈ lw_g := gw (wt_4 (List.mem_of_getElem? (i := 225) rfl)) rfl
theorem wd_1054 : Cond.selects RX11 yX11_way yX11_way ∈ lw_g := gw (wt_4 (List.mem_of_getElem? (i := 226) rfl)) rfl
theorem l_L_91 : cV RL 91 11 RX11 yX11_way cX11_way 6 (some .int) 5 := ⟨wd_1052, wd_1053, wd_1054, wd_109, wd_1055, by decide +kernel, TX11, _, rfl⟩
theorem wd_1816 : Cond.code yX12_way cX12_way 12 (some .int) ∈ lw_g := gw (wt_8 (List.mem_of_getElem? (i := 28) rfl)) rfl
theorem wd_1813 : Cond.methodLink RL 94 yX12_way ∈ lw_g := gw (wt_8 (List.mem_of_getElem? (i := 25) rfl)) rfl
theorem wd_1814 : Cond.instanceMethod yX12_way ∈ lw_g := gw (wt_8 (List.mem_of_getElem? (i := 26) rfl)) rfl
theorem wd_1815 : Cond.selects RX12 yX12_way yX12_way ∈ lw_g := gw (wt_8 (List.mem_of_getElem? (i := 27) rfl)) rfl
theorem l_L_94 : cV RL 94 12 RX12 yX12_way cX12_way 12 (some .int) 5 := ⟨wd_1813, wd_1814, wd_1815, wd_121, wd_1816, by decide +kernel, TX12, _, rfl⟩
theorem wd_1072 : Cond.code yX11_calmest cX11_calmest 5 (some .int) ∈ lw_g := gw (wt_5 (List.mem_of_getElem? (i := 4) rfl)) rfl
theorem wd_1069 : Cond.methodLink RL 95 yX11_calmest ∈ lw_g := gw (wt_5 (List.mem_of_getElem? (i := 1) rfl)) rfl
theorem wd_1070 : Cond.instanceMethod yX11_calmest ∈ lw_g := gw (wt_5 (List.mem_of_getElem? (i := 2) rfl)) rfl
theorem wd_1071 : Cond.selects RX11 yX11_calmest yX11_calmest ∈ lw_g := gw (wt_5 (List.mem_of_getElem? (i := 3) rfl)) rfl
theorem l_L_95 : cV RL 95 11 RX11 yX11_calmest cX11_calmest 5 (some .int) 4 := ⟨wd_1069, wd_1070, wd_1071, wd_109, wd_1072, by decide +kernel, TX11, _, rfl⟩
theorem wd_1820 : Cond.code yX12_calmest cX12_calmest 11 (some .int) ∈ lw_g := gw (wt_8 (List.mem_of_getElem? (i := 32) rfl)) rfl
theorem wd_1817 : Cond.methodLink RL 98 yX12_calmest ∈ lw_g := gw (wt_8 (List.mem_of_getElem? (i := 29) rfl)) rfl
theorem wd_1818 : Cond.instanceMethod yX12_calmest ∈ lw_g := gw (wt_8 (List.mem_of_getElem? (i := 30) rfl)) rfl
theorem wd_1819 : Cond.selects RX12 yX12_calmest yX12_calmest ∈ lw_g := gw (wt_8 (List.mem_of_getElem? (i := 31) rfl)) rfl
theorem l_L_98 : cV RL 98 12 RX12 yX12_calmest cX12_calmest 11 (some .int) 4 := ⟨wd_1817, wd_1818, wd_1819, wd_121, wd_1820, by decide +kernel, TX12, _, rfl⟩
theorem wd_1094 : Cond.code yX11_latest cX11_latest 5 (some .int) ∈ lw_g := gw (wt_5 (List.mem_of_getElem? (i := 26) rfl)) rfl
theorem wd_1091 : Cond.methodLink RL 99 yX11_latest ∈ lw_g := gw (wt_5 (List.mem_of_getElem? (i := 23) rfl)) rfl
theorem wd_1092 : Cond.instanceMethod yX11_latest ∈ lw_g := gw (wt_5 (List.mem_of_getElem? (i := 24) rfl)) rfl
theorem wd_1093 : Cond.selects RX11 yX11_latest yX11_latest ∈ lw_g := gw (wt_5 (List.mem_of_getElem? (i := 25) rfl)) rfl
theorem l_L_99 : cV RL 99 11 RX11 yX11_latest cX11_latest 5 (some .int) 4 := ⟨wd_1091, wd_1092, wd_1093, wd_109, wd_1094, by decide +kernel, TX11, _, rfl⟩
theorem wd_1824 : Cond.code yX12_latest cX12_latest 10 (some .int) ∈ lw_g := gw (wt_8 (List.mem_of_getElem? (i := 36) rfl)) rfl
theorem wd_1821 : Cond.methodLink RL 102 yX12_latest ∈ lw_g := gw (wt_8 (List.mem_of_getElem? (i := 33) rfl)) rfl
theorem wd_1822 : Cond.instanceMethod yX12_latest ∈ lw_g := gw (wt_8 (List.mem_of_getElem? (i := 34) rfl)) rfl
theorem wd_1823 : Cond.selects RX12 yX12_latest yX12_latest ∈ lw_g := gw (wt_8 (List.mem_of_getElem? (i := 35) rfl)) rfl
theorem l_L_102 : cV RL 102 12 RX12 yX12_latest cX12_latest 10 (some .int) 4 := ⟨wd_1821, wd_1822, wd_1823, wd_121, wd_1824, by decide +kernel, TX12, _, rfl⟩
theorem wd_1102 : Cond.code yX11_move cX11_move 2 (some .int) ∈ lw_g := gw (wt_5 (List.mem_of_getElem? (i := 34) rfl)) rfl
theorem wd_1099 : Cond.methodLink RL 103 yX11_move ∈ lw_g := gw (wt_5 (List.mem_of_getElem? (i := 31) rfl)) rfl
theorem wd_1100 : Cond.instanceMethod yX11_move ∈ lw_g := gw (wt_5 (List.mem_of_getElem? (i := 32) rfl)) rfl
theorem wd_1101 : Cond.selects RX11 yX11_move yX11_move ∈ lw_g := gw (wt_5 (List.mem_of_getElem? (i := 33) rfl)) rfl
theorem l_L_103 : cV RL 103 11 RX11 yX11_move cX11_move 2 (some .int) 1 := ⟨wd_1099, wd_1100, wd_1101, wd_109, wd_1102, by decide +kernel, TX11, _, rfl⟩
theorem wd_1828 : Cond.code yX12_move cX12_move 3 (some .int) ∈ lw_g := gw (wt_8 (List.mem_of_getElem? (i := 40) rfl)) rfl
theorem wd_1825 : Cond.methodLink RL 106 yX12_move ∈ lw_g := gw (wt_8 (List.mem_of_getElem? (i := 37) rfl)) rfl
theorem wd_1826 : Cond.instanceMethod yX12_move ∈ lw_g := gw (wt_8 (List.mem_of_getElem? (i := 38) rfl)) rfl
theorem wd_1827 : Cond.selects RX12 yX12_move yX12_move ∈ lw_g := gw (wt_8 (List.mem_of_getElem? (i := 39) rfl)) rfl
theorem l_L_106 : cV RL 106 12 RX12 yX12_move cX12_move 3 (some .int) 1 := ⟨wd_1825, wd_1826, wd_1827, wd_121, wd_1828, by decide +kernel, TX12, _, rfl⟩
theorem wd_1106 : Cond.code yX11_tear cX11_tear 2 (some .int) ∈ lw_g := gw (wt_5 (List.mem_of_getElem? (i := 38) rfl)) rfl
theorem wd_1103 : Cond.methodLink RL 107 yX11_tear ∈ lw_g := gw (wt_5 (List.mem_of_getElem? (i := 35) rfl)) rfl
theorem wd_1104 : Cond.instanceMethod yX11_tear ∈ lw_g := gw (wt_5 (List.mem_of_getElem? (i := 36) rfl)) rfl
theorem wd_1105 : Cond.selects RX11 yX11_tear yX11_tear ∈ lw_g := gw (wt_5 (List.mem_of_getElem? (i := 37) rfl)) rfl
theorem l_L_107 : cV RL 107 11 RX11 yX11_tear cX11_tear 2 (some .int) 0 := ⟨wd_1103, wd_1104, wd_1105, wd_109, wd_1106, by decide +kernel, TX11, _, rfl⟩
theorem wd_1832 : Cond.code yX12_tear cX12_tear 2 (some .int) ∈ lw_g := gw (wt_8 (List.mem_of_getElem? (i := 44) rfl)) rfl
theorem wd_1829 : Cond.methodLink RL 110 yX12_tear ∈ lw_g := gw (wt_8 (List.mem_of_getElem? (i := 41) rfl)) rfl
theorem wd_1830 : Cond.instanceMethod yX12_tear ∈ lw_g := gw (wt_8 (List.mem_of_getElem? (i := 42) rfl)) rfl
theorem wd_1831 : Cond.selects RX12 yX12_tear yX12_tear ∈ lw_g := gw (wt_8 (List.mem_of_getElem? (i := 43) rfl)) rfl
theorem l_L_110 : cV RL 110 12 RX12 yX12_tear cX12_tear 2 (some .int) 0 := ⟨wd_1829, wd_1830, wd_1831, wd_121, wd_1832, by decide +kernel, TX12, _, rfl⟩
theorem wd_1110 : Cond.code yX11_done cX11_done 5 (some .int) ∈ lw_g := gw (wt_5 (List.mem_of_getElem? (i := 42) rfl)) rfl
theorem wd_1107 : Cond.methodLink RL 111 yX11_done ∈ lw_g := gw (wt_5 (List.mem_of_getElem? (i := 39) rfl)) rfl
theorem wd_1108 : Cond.instanceMethod yX11_done ∈ lw_g := gw (wt_5 (List.mem_of_getElem? (i := 40) rfl)) rfl
theorem wd_1109 : Cond.selects RX11 yX11_done yX11_done ∈ lw_g := gw (wt_5 (List.mem_of_getElem? (i := 41) rfl)) rfl
theorem l_L_111 : cV RL 111 11 RX11 yX11_done cX11_done 5 (some .int) 4 := ⟨wd_1107, wd_1108, wd_1109, wd_109, wd_1110, by decide +kernel, TX11, _, rfl⟩
theorem wd_1836 : Cond.code yX12_done cX12_done 5 (some .int) ∈ lw_g := gw (wt_8 (List.mem_of_getElem? (i := 48) rfl)) rfl
theorem wd_1833 : Cond.methodLink RL 114 yX12_done ∈ lw_g := gw (wt_8 (List.mem_of_getElem? (i := 45) rfl)) rfl
theorem wd_1834 : Cond.instanceMethod yX12_done ∈ lw_g := gw (wt_8 (List.mem_of_getElem? (i := 46) rfl)) rfl
theorem wd_1835 : Cond.selects RX12 yX12_done yX12_done ∈ lw_g := gw (wt_8 (List.mem_of_getElem? (i := 47) rfl)) rfl
theorem l_L_114 : cV RL 114 12 RX12 yX12_done cX12_done 5 (some .int) 4 := ⟨wd_1833, wd_1834, wd_1835, wd_121, wd_1836, by decide +kernel, TX12, _, rfl⟩
theorem wd_1130 : Cond.code yX11_margin cX11_margin 4 (some .int) ∈ lw_g := gw (wt_5 (List.mem_of_getElem? (i := 62) rfl)) rfl
theorem wd_1127 : Cond.methodLink RL 115 yX11_margin ∈ lw_g := gw (wt_5 (List.mem_of_getElem? (i := 59) rfl)) rfl
theorem wd_1128 : Cond.instanceMethod yX11_margin ∈ lw_g := gw (wt_5 (List.mem_of_getElem? (i := 60) rfl)) rfl
theorem wd_1129 : Cond.selects RX11 yX11_margin yX11_margin ∈ lw_g := gw (wt_5 (List.mem_of_getElem? (i := 61) rfl)) rfl
theorem l_L_115 : cV RL 115 11 RX11 yX11_margin cX11_margin 4 (some .int) 3 := ⟨wd_1127, wd_1128, wd_1129, wd_109, wd_1130, by decide +kernel, TX11, _, rfl⟩
theorem wd_1844 : Cond.code yX12_margin cX12_margin 5 (some .int) ∈ lw_g := gw (wt_8 (List.mem_of_getElem? (i := 56) rfl)) rfl
theorem wd_1841 : Cond.methodLink RL 118 yX12_margin ∈ lw_g := gw (wt_8 (List.mem_of_getElem? (i := 53) rfl)) rfl
theorem wd_1842 : Cond.instanceMethod yX12_margin ∈ lw_g := gw (wt_8 (List.mem_of_getElem? (i := 54) rfl)) rfl
theorem wd_1843 : Cond.selects RX12 yX12_margin yX12_margin ∈ lw_g := gw (wt_8 (List.mem_of_getElem? (i := 55) rfl)) rfl
theorem l_L_118 : cV RL 118 12 RX12 yX12_margin cX12_margin 5 (some .int) 3 := ⟨wd_1841, wd_1842, wd_1843, wd_121, wd_1844, by decide +kernel, TX12, _, rfl⟩
theorem wd_1139 : Cond.code yX11_ship cX11_ship 4 (some .int) ∈ lw_g := gw (wt_5 (List.mem_of_getElem? (i := 71) rfl)) rfl
theorem wd_1136 : Cond.methodLink RL 119 yX11_ship ∈ lw_g := gw (wt_5 (List.mem_of_getElem? (i := 68) rfl)) rfl
theorem wd_1137 : Cond.instanceMethod yX11_ship ∈ lw_g := gw (wt_5 (List.mem_of_getElem? (i := 69) rfl)) rfl
theorem wd_1138 : Cond.selects RX11 yX11_ship yX11_ship ∈ lw_g := gw (wt_5 (List.mem_of_getElem? (i := 70) rfl)) rfl
theorem l_L_119 : cV RL 119 11 RX11 yX11_ship cX11_ship 4 (some .int) 3 := ⟨wd_1136, wd_1137, wd_1138, wd_109, wd_1139, by decide +kernel, TX11, _, rfl⟩
theorem wd_1848 : Cond.code yX12_ship cX12_ship 5 (some .int) ∈ lw_g := gw (wt_8 (List.mem_of_getElem? (i := 60) rfl)) rfl
theorem wd_1845 : Cond.methodLink RL 122 yX12_ship ∈ lw_g := gw (wt_8 (List.mem_of_getElem? (i := 57) rfl)) rfl
theorem wd_1846 : Cond.instanceMethod yX12_ship ∈ lw_g := gw (wt_8 (List.mem_of_getElem? (i := 58) rfl)) rfl
theorem wd_1847 : Cond.selects RX12 yX12_ship yX12_ship ∈ lw_g := gw (wt_8 (List.mem_of_getElem? (i := 59) rfl)) rfl
theorem l_L_122 : cV RL 122 12 RX12 yX12_ship cX12_ship 5 (some .int) 3 := ⟨wd_1845, wd_1846, wd_1847, wd_121, wd_1848, by decide +kernel, TX12, _, rfl⟩
theorem wd_1143 : Cond.code yX11_order cX11_order 3 (some .int) ∈ lw_g := gw (wt_5 (List.mem_of_getElem? (i := 75) rfl)) rfl
theorem wd_1140 : Cond.methodLink RL 123 yX11_order ∈ lw_g := gw (wt_5 (List.mem_of_getElem? (i := 72) rfl)) rfl
theorem wd_1141 : Cond.instanceMethod yX11_order ∈ lw_g := gw (wt_5 (List.mem_of_getElem? (i := 73) rfl)) rfl
theorem wd_1142 : Cond.selects RX11 yX11_order yX11_order ∈ lw_g := gw (wt_5 (List.mem_of_getElem? (i := 74) rfl)) rfl
theorem l_L_123 : cV RL 123 11 RX11 yX11_order cX11_order 3 (some .int) 1 := ⟨wd_1140, wd_1141, wd_1142, wd_109, wd_1143, by decide +kernel, TX11, _, rfl⟩
theorem wd_1852 : Cond.code yX12_order cX12_order 2 (some .int) ∈ lw_g := gw (wt_8 (List.mem_of_getElem? (i := 64) rfl)) rfl
theorem wd_1849 : Cond.methodLink RL 126 yX12_order ∈ lw_g := gw (wt_8 (List.mem_of_getElem? (i := 61) rfl)) rfl
theorem wd_1850 : Cond.instanceMethod yX12_order ∈ lw_g := gw (wt_8 (List.mem_of_getElem? (i := 62) rfl)) rfl
theorem wd_1851 : Cond.selects RX12 yX12_order yX12_order ∈ lw_g := gw (wt_8 (List.mem_of_getElem? (i := 63) rfl)) rfl
theorem l_L_126 : cV RL 126 12 RX12 yX12_order cX12_order 2 (some .int) 1 := ⟨wd_1849, wd_1850, wd_1851, wd_121, wd_1852, by decide +kernel, TX12, _, rfl⟩
theorem wd_1162 : Cond.code yX11_begins cX11_begins 2 (some .int) ∈ lw_g := gw (wt_5 (List.mem_of_getElem? (i := 94) rfl)) rfl
theorem wd_1159 : Cond.methodLink RL 127 yX11_begins ∈ lw_g := gw (wt_5 (List.mem_of_getElem? (i := 91) rfl)) rfl
theorem wd_1160 : Cond.instanceMethod yX11_begins ∈ lw_g := gw (wt_5 (List.mem_of_getElem? (i := 92) rfl)) rfl
theorem wd_1161 : Cond.selects RX11 yX11_begins yX11_begins ∈ lw_g := gw (wt_5 (List.mem_of_getElem? (i := 93) rfl)) rfl
theorem l_L_127 : cV RL 127 11 RX11 yX11_begins cX11_begins 2 (some .int) 1 := ⟨wd_1159, wd_1160, wd_1161, wd_109, wd_1162, by decide +kernel, TX11, _, rfl⟩
theorem wd_1868 : Cond.code yX12_begins cX12_begins 2 (some .int) ∈ lw_g := gw (wt_8 (List.mem_of_getElem? (i := 80) rfl)) rfl
theorem wd_1865 : Cond.methodLink RL 130 yX12_begins ∈ lw_g := gw (wt_8 (List.mem_of_getElem? (i := 77) rfl)) rfl
theorem wd_1866 : Cond.instanceMethod yX12_begins ∈ lw_g := gw (wt_8 (List.mem_of_getElem? (i := 78) rfl)) rfl
theorem wd_1867 : Cond.selects RX12 yX12_begins yX12_begins ∈ lw_g := gw (wt_8 (List.mem_of_getElem? (i := 79) rfl)) rfl
theorem l_L_130 : cV RL 130 12 RX12 yX12_begins cX12_begins 2 (some .int) 1 := ⟨wd_1865, wd_1866, wd_1867, wd_121, wd_1868, by decide +kernel, TX12, _, rfl⟩
theorem wd_1166 : Cond.code yX11_taken cX11_taken 2 (some .long) ∈ lw_g := gw (wt_5 (List.mem_of_getElem? (i := 98) rfl)) rfl
theorem wd_1163 : Cond.methodLink RL 131 yX11_taken ∈ lw_g := gw (wt_5 (List.mem_of_getElem? (i := 95) rfl)) rfl
theorem wd_1164 : Cond.instanceMethod yX11_taken ∈ lw_g := gw (wt_5 (List.mem_of_getElem? (i := 96) rfl)) rfl
theorem wd_1165 : Cond.selects RX11 yX11_taken yX11_taken ∈ lw_g := gw (wt_5 (List.mem_of_getElem? (i := 97) rfl)) rfl
theorem l_L_131 : cV RL 131 11 RX11 yX11_taken cX11_taken 2 (some .long) 1 := ⟨wd_1163, wd_1164, wd_1165, wd_109, wd_1166, by decide +kernel, TX11, _, rfl⟩
theorem wd_1872 : Cond.code yX12_taken cX12_taken 2 (some .long) ∈ lw_g := gw (wt_8 (List.mem_of_getElem? (i := 84) rfl)) rfl
theorem wd_1869 : Cond.methodLink RL 135 yX12_taken ∈ lw_g := gw (wt_8 (List.mem_of_getElem? (i := 81) rfl)) rfl
theorem wd_1870 : Cond.instanceMethod yX12_taken ∈ lw_g := gw (wt_8 (List.mem_of_getElem? (i := 82) rfl)) rfl
theorem wd_1871 : Cond.selects RX12 yX12_taken yX12_taken ∈ lw_g := gw (wt_8 (List.mem_of_getElem? (i := 83) rfl)) rfl
theorem l_L_135 : cV RL 135 12 RX12 yX12_taken cX12_taken 2 (some .long) 1 := ⟨wd_1869, wd_1870, wd_1871, wd_121, wd_1872, by decide +kernel, TX12, _, rfl⟩
theorem wd_1184 : Cond.code yX11_most cX11_most 3 (some .int) ∈ lw_g := gw (wt_5 (List.mem_of_getElem? (i := 116) rfl)) rfl
theorem wd_1181 : Cond.methodLink RL 136 yX11_most ∈ lw_g := gw (wt_5 (List.mem_of_getElem? (i := 113) rfl)) rfl
theorem wd_1182 : Cond.instanceMethod yX11_most ∈ lw_g := gw (wt_5 (List.mem_of_getElem? (i := 114) rfl)) rfl
theorem wd_1183 : Cond.selects RX11 yX11_most yX11_most ∈ lw_g := gw (wt_5 (List.mem_of_getElem? (i := 115) rfl)) rfl
theorem l_L_136 : cV RL 136 11 RX11 yX11_most cX11_most 3 (some .int) 2 := ⟨wd_1181, wd_1182, wd_1183, wd_109, wd_1184, by decide +kernel, TX11, _, rfl⟩
theorem wd_1882 : Cond.code yX12_most cX12_most 9 (some .int) ∈ lw_g := gw (wt_8 (List.mem_of_getElem? (i := 94) rfl)) rfl
theorem wd_1879 : Cond.methodLink RL 139 yX12_most ∈ lw_g := gw (wt_8 (List.mem_of_getElem? (i := 91) rfl)) rfl
theorem wd_1880 : Cond.instanceMethod yX12_most ∈ lw_g := gw (wt_8 (List.mem_of_getElem? (i := 92) rfl)) rfl
theorem wd_1881 : Cond.selects RX12 yX12_most yX12_most ∈ lw_g := gw (wt_8 (List.mem_of_getElem? (i := 93) rfl)) rfl
theorem l_L_139 : cV RL 139 12 RX12 yX12_most cX12_most 9 (some .int) 2 := ⟨wd_1879, wd_1880, wd_1881, wd_121, wd_1882, by decide +kernel, TX12, _, rfl⟩
theorem wd_1193 : Cond.code yX11_cast cX11_cast 3 (some .int) ∈ lw_g := gw (wt_5 (List.mem_of_getElem? (i := 125) rfl)) rfl
theorem wd_1190 : Cond.methodLink RL 140 yX11_cast ∈ lw_g := gw (wt_5 (List.mem_of_getElem? (i := 122) rfl)) rfl
theorem wd_1191 : Cond.instanceMethod yX11_cast ∈ lw_g := gw (wt_5 (List.mem_of_getElem? (i := 123) rfl)) rfl
theorem wd_1192 : Cond.selects RX11 yX11_cast yX11_cast ∈ lw_g := gw (wt_5 (List.mem_of_getElem? (i := 124) rfl)) rfl
theorem l_L_140 : cV RL 140 11 RX11 yX11_cast cX11_cast 3 (some .int) 2 := ⟨wd_1190, wd_1191, wd_1192, wd_109, wd_1193, by decide +kernel, TX11, _, rfl⟩
theorem wd_1886 : Cond.code yX12_cast cX12_cast 4 (some .int) ∈ lw_g := gw (wt_8 (List.mem_of_getElem? (i := 98) rfl)) rfl
theorem wd_1883 : Cond.methodLink RL 143 yX12_cast ∈ lw_g := gw (wt_8 (List.mem_of_getElem? (i := 95) rfl)) rfl
theorem wd_1884 : Cond.instanceMethod yX12_cast ∈ lw_g := gw (wt_8 (List.mem_of_getElem? (i := 96) rfl)) rfl
theorem wd_1885 : Cond.selects RX12 yX12_cast yX12_cast ∈ lw_g := gw (wt_8 (List.mem_of_getElem? (i := 97) rfl)) rfl
theorem l_L_143 : cV RL 143 12 RX12 yX12_cast cX12_cast 4 (some .int) 2 := ⟨wd_1883, wd_1884, wd_1885, wd_121, wd_1886, by decide +kernel, TX12, _, rfl⟩
theorem wd_1197 : Cond.code yX11_agree cX11_agree 3 (some .int) ∈ lw_g := gw (wt_5 (List.mem_of_getElem? (i := 129) rfl)) rfl
theorem wd_1194 : Cond.methodLink RL 144 yX11_agree ∈ lw_g := gw (wt_5 (List.mem_of_getElem? (i := 126) rfl)) rfl
theorem wd_1195 : Cond.instanceMethod yX11_agree ∈ lw_g := gw (wt_5 (List.mem_of_getElem? (i := 127) rfl)) rfl
theorem wd_1196 : Cond.selects RX11 yX11_agree yX11_agree ∈ lw_g := gw (wt_5 (List.mem_of_getElem? (i := 128) rfl)) rfl
theorem l_L_144 : cV RL 144 11 RX11 yX11_agree cX11_agree 3 (some .int) 2 := ⟨wd_1194, wd_1195, wd_1196, wd_109, wd_1197, by decide +kernel, TX11, _, rfl⟩
theorem wd_1890 : Cond.code yX12_agree cX12_agree 3 (some .int) ∈ lw_g := gw (wt_8 (List.mem_of_getElem? (i := 102) rfl)) rfl
theorem wd_1887 : Cond.methodLink RL 147 yX12_agree ∈ lw_g := gw (wt_8 (List.mem_of_getElem? (i := 99) rfl)) rfl
theorem wd_1888 : Cond.instanceMethod yX12_agree ∈ lw_g := gw (wt_8 (List.mem_of_getElem? (i := 100) rfl)) rfl
theorem wd_1889 : Cond.selects RX12 yX12_agree yX12_agree ∈ lw_g := gw (wt_8 (List.mem_of_getElem? (i := 101) rfl)) rfl
theorem l_L_147 : cV RL 147 12 RX12 yX12_agree cX12_agree 3 (some .int) 2 := ⟨wd_1887, wd_1888, wd_1889, wd_121, wd_1890, by decide +kernel, TX12, _, rfl⟩
theorem wd_1224 : Cond.code yX11_tells cX11_tells 2 (some .int) ∈ lw_g := gw (wt_5 (List.mem_of_getElem? (i := 156) rfl)) rfl
theorem wd_1221 : Cond.methodLink RL 148 yX11_tells ∈ lw_g := gw (wt_5 (List.mem_of_getElem? (i := 153) rfl)) rfl
theorem wd_1222 : Cond.instanceMethod yX11_tells ∈ lw_g := gw (wt_5 (List.mem_of_getElem? (i := 154) rfl)) rfl
theorem wd_1223 : Cond.selects RX11 yX11_tells yX11_tells ∈ lw_g := gw (wt_5 (List.mem_of_getElem? (i := 155) rfl)) rfl
theorem l_L_148 : cV RL 148 11 RX11 yX11_tells cX11_tells 2 (some .int) 1 := ⟨wd_1221, wd_1222, wd_1223, wd_109, wd_1224, by decide +kernel, TX11, _, rfl⟩
theorem wd_1898 : Cond.code yX12_tells cX12_tells 5 (some .int) ∈ lw_g := gw (wt_8 (List.mem_of_getElem? (i := 110) rfl)) rfl
theorem wd_1895 : Cond.methodLink RL 151 yX12_tells ∈ lw_g := gw (wt_8 (List.mem_of_getElem? (i := 107) rfl)) rfl
theorem wd_1896 : Cond.instanceMethod yX12_tells ∈ lw_g := gw (wt_8 (List.mem_of_getElem? (i := 108) rfl)) rfl
theorem wd_1897 : Cond.selects RX12 yX12_tells yX12_tells ∈ lw_g := gw (wt_8 (List.mem_of_getElem? (i := 109) rfl)) rfl
theorem l_L_151 : cV RL 151 12 RX12 yX12_tells cX12_tells 5 (some .int) 1 := ⟨wd_1895, wd_1896, wd_1897, wd_121, wd_1898, by decide +kernel, TX12, _, rfl⟩
theorem wd_1232 : Cond.code yX11_right cX11_right 3 (some .int) ∈ lw_g := gw (wt_5 (List.mem_of_getElem? (i := 164) rfl)) rfl
theorem wd_1229 : Cond.methodLink RL 152 yX11_right ∈ lw_g := gw (wt_5 (List.mem_of_getElem? (i := 161) rfl)) rfl
theorem wd_1230 : Cond.instanceMethod yX11_right ∈ lw_g := gw (wt_5 (List.mem_of_getElem? (i := 162) rfl)) rfl
theorem wd_1231 : Cond.selects RX11 yX11_right yX11_right ∈ lw_g := gw (wt_5 (List.mem_of_getElem? (i := 163) rfl)) rfl
theorem l_L_152 : cV RL 152 11 RX11 yX11_right cX11_right 3 (some .int) 2 := ⟨wd_1229, wd_1230, wd_1231, wd_109, wd_1232, by decide +kernel, TX11, _, rfl⟩
theorem wd_1902 : Cond.code yX12_right cX12_right 3 (some .int) ∈ lw_g := gw (wt_8 (List.mem_of_getElem? (i := 114) rfl)) rfl
theorem wd_1899 : Cond.methodLink RL 155 yX12_right ∈ lw_g := gw (wt_8 (List.mem_of_getElem? (i := 111) rfl)) rfl
theorem wd_1900 : Cond.instanceMethod yX12_right ∈ lw_g := gw (wt_8 (List.mem_of_getElem? (i := 112) rfl)) rfl
theorem wd_1901 : Cond.selects RX12 yX12_right yX12_right ∈ lw_g := gw (wt_8 (List.mem_of_getElem? (i := 113) rfl)) rfl
theorem l_L_155 : cV RL 155 12 RX12 yX12_right cX12_right 3 (some .int) 2 := ⟨wd_1899, wd_1900, wd_1901, wd_121, wd_1902, by decide +kernel, TX12, _, rfl⟩
theorem wd_1254 : Cond.code yX11_mark cX11_mark 2 (some .int) ∈ lw_g := gw (wt_5 (List.mem_of_getElem? (i := 186) rfl)) rfl
theorem wd_1251 : Cond.methodLink RL 156 yX11_mark ∈ lw_g := gw (wt_5 (List.mem_of_getElem? (i := 183) rfl)) rfl
theorem wd_1252 : Cond.instanceMethod yX11_mark ∈ lw_g := gw (wt_5 (List.mem_of_getElem? (i := 184) rfl)) rfl
theorem wd_1253 : Cond.selects RX11 yX11_mark yX11_mark ∈ lw_g := gw (wt_5 (List.mem_of_getElem? (i := 185) rfl)) rfl
theorem l_L_156 : cV RL 156 11 RX11 yX11_mark cX11_mark 2 (some .int) 1 := ⟨wd_1251, wd_1252, wd_1253, wd_109, wd_1254, by decide +kernel, TX11, _, rfl⟩
theorem wd_1918 : Cond.code yX12_mark cX12_mark 6 (some .int) ∈ lw_g := gw (wt_8 (List.mem_of_getElem? (i := 130) rfl)) rfl
theorem wd_1915 : Cond.methodLink RL 159 yX12_mark ∈ lw_g := gw (wt_8 (List.mem_of_getElem? (i := 127) rfl)) rfl
theorem wd_1916 : Cond.instanceMethod yX12_mark ∈ lw_g := gw (wt_8 (List.mem_of_getElem? (i := 128) rfl)) rfl
theorem wd_1917 : Cond.selects RX12 yX12_mark yX12_mark ∈ lw_g := gw (wt_8 (List.mem_of_getElem? (i := 129) rfl)) rfl
theorem l_L_159 : cV RL 159 12 RX12 yX12_mark cX12_mark 6 (some .int) 1 := ⟨wd_1915, wd_1916, wd_1917, wd_121, wd_1918, by decide +kernel, TX12, _, rfl⟩
theorem wd_1263 : Cond.code yX11_lost cX11_lost 5 (some .int) ∈ lw_g := gw (wt_5 (List.mem_of_getElem? (i := 195) rfl)) rfl
theorem wd_1260 : Cond.methodLink RL 160 yX11_lost ∈ lw_g := gw (wt_5 (List.mem_of_getElem? (i := 192) rfl)) rfl
theorem wd_1261 : Cond.instanceMethod yX11_lost ∈ lw_g := gw (wt_5 (List.mem_of_getElem? (i := 193) rfl)) rfl
theorem wd_1262 : Cond.selects RX11 yX11_lost yX11_lost ∈ lw_g := gw (wt_5 (List.mem_of_getElem? (i := 194) rfl)) rfl
theorem l_L_160 : cV RL 160 11 RX11 yX11_lost cX11_lost 5 (some .int) 4 := ⟨wd_1260, wd_1261, wd_1262, wd_109, wd_1263, by decide +kernel, TX11, _, rfl⟩
theorem wd_1922 : Cond.code yX12_lost cX12_lost 12 (some .int) ∈ lw_g := gw (wt_8 (List.mem_of_getElem? (i := 134) rfl)) rfl
theorem wd_1919 : Cond.methodLink RL 163 yX12_lost ∈ lw_g := gw (wt_8 (List.mem_of_getElem? (i := 131) rfl)) rfl
theorem wd_1920 : Cond.instanceMethod yX12_lost ∈ lw_g := gw (wt_8 (List.mem_of_getElem? (i := 132) rfl)) rfl
theorem wd_1921 : Cond.selects RX12 yX12_lost yX12_lost ∈ lw_g := gw (wt_8 (List.mem_of_getElem? (i := 133) rfl)) rfl
theorem l_L_163 : cV RL 163 12 RX12 yX12_lost cX12_lost 12 (some .int) 4 := ⟨wd_1919, wd_1920, wd_1921, wd_121, wd_1922, by decide +kernel, TX12, _, rfl⟩
theorem wd_1287 : Cond.code yX11_day cX11_day 2 (some .int) ∈ lw_g := gw (wt_5 (List.mem_of_getElem? (i := 219) rfl)) rfl
theorem wd_1284 : Cond.methodLink RL 164 yX11_day ∈ lw_g := gw (wt_5 (List.mem_of_getElem? (i := 216) rfl)) rfl
theorem wd_1285 : Cond.instanceMethod yX11_day ∈ lw_g := gw (wt_5 (List.mem_of_getElem? (i := 217) rfl)) rfl
theorem wd_1286 : Cond.selects RX11 yX11_day yX11_day ∈ lw_g := gw (wt_5 (List.mem_of_getElem? (i := 218) rfl)) rfl
theorem l_L_164 : cV RL 164 11 RX11 yX11_day cX11_day 2 (some .int) 1 := ⟨wd_1284, wd_1285, wd_1286, wd_109, wd_1287, by decide +kernel, TX11, _, rfl⟩
theorem wd_1933 : Cond.code yX12_day cX12_day 4 (some .int) ∈ lw_g := gw (wt_8 (List.mem_of_getElem? (i := 145) rfl)) rfl
theorem wd_1930 : Cond.methodLink RL 167 yX12_day ∈ lw_g := gw (wt_8 (List.mem_of_getElem? (i := 142) rfl)) rfl
theorem wd_1931 : Cond.instanceMethod yX12_day ∈ lw_g := gw (wt_8 (List.mem_of_getElem? (i := 143) rfl)) rfl
theorem wd_1932 : Cond.selects RX12 yX12_day yX12_day ∈ lw_g := gw (wt_8 (List.mem_of_getElem? (i := 144) rfl)) rfl
theorem l_L_167 : cV RL 167 12 RX12 yX12_day cX12_day 4 (some .int) 1 := ⟨wd_1930, wd_1931, wd_1932, wd_121, wd_1933, by decide +kernel, TX12, _, rfl⟩
theorem wd_1297 : Cond.code yX11_drawn cX11_drawn 2 (some .int) ∈ lw_g := gw (wt_5 (List.mem_of_getElem? (i := 229) rfl)) rfl
theorem wd_1294 : Cond.methodLink RL 168 yX11_drawn ∈ lw_g := gw (wt_5 (List.mem_of_getElem? (i := 226) rfl)) rfl
theorem wd_1295 : Cond.instanceMethod yX11_drawn ∈ lw_g := gw (wt_5 (List.mem_of_getElem? (i := 227) rfl)) rfl
theorem wd_1296 : Cond.selects RX11 yX11_drawn yX11_drawn ∈ lw_g := gw (wt_5 (List.mem_of_getElem? (i := 228) rfl)) rfl
theorem l_L_168 : cV RL 168 11 RX11 yX11_drawn cX11_drawn 2 (some .int) 1 := ⟨wd_1294, wd_1295, wd_1296, wd_109, wd_1297, by decide +kernel, TX11, _, rfl⟩
theorem wd_1940 : Cond.code yX12_drawn cX12_drawn 2 (some .int) ∈ lw_g := gw (wt_8 (List.mem_of_getElem? (i := 152) rfl)) rfl
theorem wd_1937 : Cond.methodLink RL 171 yX12_drawn ∈ lw_g := gw (wt_8 (List.mem_of_getElem? (i := 149) rfl)) rfl
theorem wd_1938 : Cond.instanceMethod yX12_drawn ∈ lw_g := gw (wt_8 (List.mem_of_getElem? (i := 150) rfl)) rfl
theorem wd_1939 : Cond.selects RX12 yX12_drawn yX12_drawn ∈ lw_g := gw (wt_8 (List.mem_of_getElem? (i := 151) rfl)) rfl
theorem l_L_171 : cV RL 171 12 RX12 yX12_drawn cX12_drawn 2 (some .int) 1 := ⟨wd_1937, wd_1938, wd_1939, wd_121, wd_1940, by decide +kernel, TX12, _, rfl⟩
theorem wd_1301 : Cond.code yX11_image cX11_image 2 (some .int) ∈ lw_g := gw (wt_5 (List.mem_of_getElem? (i := 233) rfl)) rfl
theorem wd_1298 : Cond.methodLink RL 172 yX11_image ∈ lw_g := gw (wt_5 (List.mem_of_getElem? (i := 230) rfl)) rfl
theorem wd_1299 : Cond.instanceMethod yX11_image ∈ lw_g := gw (wt_5 (List.mem_of_getElem? (i := 231) rfl)) rfl
theorem wd_1300 : Cond.selects RX11 yX11_image yX11_image ∈ lw_g := gw (wt_5 (List.mem_of_getElem? (i := 232) rfl)) rfl
theorem l_L_172 : cV RL 172 11 RX11 yX11_image cX11_image 2 (some .int) 1 := ⟨wd_1298, wd_1299, wd_1300, wd_109, wd_1301, by decide +kernel, TX11, _, rfl⟩
theorem wd_1485 : Cond.code yX12_image cX12_image 3 (some .int) ∈ lw_g := gw (wt_6 (List.mem_of_getElem? (i := 177) rfl)) rfl
theorem wd_1482 : Cond.methodLink RL 175 yX12_image ∈ lw_g := gw (wt_6 (List.mem_of_getElem? (i := 174) rfl)) rfl
theorem wd_1483 : Cond.instanceMethod yX12_image ∈ lw_g := gw (wt_6 (List.mem_of_getElem? (i := 175) rfl)) rfl
theorem wd_1484 : Cond.selects RX12 yX12_image yX12_image ∈ lw_g := gw (wt_6 (List.mem_of_getElem? (i := 176) rfl)) rfl
theorem l_L_175 : cV RL 175 12 RX12 yX12_image cX12_image 3 (some .int) 1 := ⟨wd_1482, wd_1483, wd_1484, wd_121, wd_1485, by decide +kernel, TX12, _, rfl⟩
theorem wd_1310 : Cond.code yX11_back cX11_back 2 (some .int) ∈ lw_g := gw (wt_6 (List.mem_of_getElem? (i := 2) rfl)) rfl
theorem wd_1307 : Cond.methodLink RL 176 yX11_back ∈ lw_g := gw (wt_5 (List.mem_of_getElem? (i := 239) rfl)) rfl
theorem wd_1308 : Cond.instanceMethod yX11_back ∈ lw_g := gw (wt_6 (List.mem_of_getElem? (i := 0) rfl)) rfl
theorem wd_1309 : Cond.selects RX11 yX11_back yX11_back ∈ lw_g := gw (wt_6 (List.mem_of_getElem? (i := 1) rfl)) rfl
theorem l_L_176 : cV RL 176 11 RX11 yX11_back cX11_back 2 (some .int) 1 := ⟨wd_1307, wd_1308, wd_1309, wd_109, wd_1310, by decide +kernel, TX11, _, rfl⟩
theorem wd_1500 : Cond.code yX12_back cX12_back 3 (some .int) ∈ lw_g := gw (wt_6 (List.mem_of_getElem? (i := 192) rfl)) rfl
theorem wd_1497 : Cond.methodLink RL 179 yX12_back ∈ lw_g := gw (wt_6 (List.mem_of_getElem? (i := 189) rfl)) rfl
theorem wd_1498 : Cond.instanceMethod yX12_back ∈ lw_g := gw (wt_6 (List.mem_of_getElem? (i := 190) rfl)) rfl
theorem wd_1499 : Cond.selects RX12 yX12_back yX12_back ∈ lw_g := gw (wt_6 (List.mem_of_getElem? (i := 191) rfl)) rfl
theorem l_L_179 : cV RL 179 12 RX12 yX12_back cX12_back 3 (some .int) 1 := ⟨wd_1497, wd_1498, wd_1499, wd_121, wd_1500, by decide +kernel, TX12, _, rfl⟩
theorem wd_1314 : Cond.code yX11_count cX11_count 2 (some .int) ∈ lw_g := gw (wt_6 (List.mem_of_getElem? (i := 6) rfl)) rfl
theorem wd_1311 : Cond.methodLink RL 180 yX11_count ∈ lw_g := gw (wt_6 (List.mem_of_getElem? (i := 3) rfl)) rfl
theorem wd_1312 : Cond.instanceMethod yX11_count ∈ lw_g := gw (wt_6 (List.mem_of_getElem? (i := 4) rfl)) rfl
theorem wd_1313 : Cond.selects RX11 yX11_count yX11_count ∈ lw_g := gw (wt_6 (List.mem_of_getElem? (i := 5) rfl)) rfl
theorem l_L_180 : cV RL 180 11 RX11 yX11_count cX11_count 2 (some .int) 1 := ⟨wd_1311, wd_1312, wd_1313, wd_109, wd_1314, by decide +kernel, TX11, _, rfl⟩
theorem wd_1944 : Cond.code yX12_count cX12_count 2 (some .int) ∈ lw_g := gw (wt_8 (List.mem_of_getElem? (i := 156) rfl)) rfl
theorem wd_1941 : Cond.methodLink RL 183 yX12_count ∈ lw_g := gw (wt_8 (List.mem_of_getElem? (i := 153) rfl)) rfl
theorem wd_1942 : Cond.instanceMethod yX12_count ∈ lw_g := gw (wt_8 (List.mem_of_getElem? (i := 154) rfl)) rfl
theorem wd_1943 : Cond.selects RX12 yX12_count yX12_count ∈ lw_g := gw (wt_8 (List.mem_of_getElem? (i := 155) rfl)) rfl
theorem l_L_183 : cV RL 183 12 RX12 yX12_count cX12_count 2 (some .int) 1 := ⟨wd_1941, wd_1942, wd_1943, wd_121, wd_1944, by decide +kernel, TX12, _, rfl⟩
theorem wd_1318 : Cond.code yX11_status cX11_status 1 (some .int) ∈ lw_g := gw (wt_6 (List.mem_of_getElem? (i := 10) rfl)) rfl
theorem wd_1315 : Cond.methodLink RL 184 yX11_status ∈ lw_g := gw (wt_6 (List.mem_of_getElem? (i := 7) rfl)) rfl
theorem wd_1316 : Cond.instanceMethod yX11_status ∈ lw_g := gw (wt_6 (List.mem_of_getElem? (i := 8) rfl)) rfl
theorem wd_1317 : Cond.selects RX11 yX11_status yX11_status ∈ lw_g := gw (wt_6 (List.mem_of_getElem? (i := 9) rfl)) rfl
theorem l_L_184 : cV RL 184 11 RX11 yX11_status cX11_status 1 (some .int) 0 := ⟨wd_1315, wd_1316, wd_1317, wd_109, wd_1318, by decide +kernel, TX11, _, rfl⟩
theorem wd_1948 : Cond.code yX12_status cX12_status 1 (some .int) ∈ lw_g := gw (wt_8 (List.mem_of_getElem? (i := 160) rfl)) rfl
theorem wd_1945 : Cond.methodLink RL 187 yX12_status ∈ lw_g := gw (wt_8 (List.mem_of_getElem? (i := 157) rfl)) rfl
theorem wd_1946 : Cond.instanceMethod yX12_status ∈ lw_g := gw (wt_8 (List.mem_of_getElem? (i := 158) rfl)) rfl
theorem wd_1947 : Cond.selects RX12 yX12_status yX12_status ∈ lw_g := gw (wt_8 (List.mem_of_getElem? (i := 159) rfl)) rfl
theorem l_L_187 : cV RL 187 12 RX12 yX12_status cX12_status 1 (some .int) 0 := ⟨wd_1945, wd_1946, wd_1947, wd_121, wd_1948, by decide +kernel, TX12, _, rfl⟩
