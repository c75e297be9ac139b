/-! the judgement of a walk over the store -/
abbrev jG : Type := Nat × (Nat → ClassId) × (Nat → Nat → Nat) × (Nat → ClassId) × (Nat → Nat) × (Nat → Nat) × (Nat → Nat)
abbrev jY : Type := Program × Launch × Env × Room × State × MethodId × Array Value × List Frame × Method × Code × (State → Prop) × Nat × Nat × Nat × Nat × Nat
abbrev jX : Type := (Nat × Nat) × Option jY
section acc
variable (X : jY)
abbrev xP : Program := X.1
abbrev xl : Launch := X.2.1
abbrev xe : Env := X.2.2.1
abbrev xR : Room := X.2.2.2.1
abbrev xs : State := X.2.2.2.2.1
abbrev xm : MethodId := X.2.2.2.2.2.1
abbrev xa : Array Value := X.2.2.2.2.2.2.1
abbrev xb : List Frame := X.2.2.2.2.2.2.2.1
abbrev xM : Method := X.2.2.2.2.2.2.2.2.1
abbrev xc : Code := X.2.2.2.2.2.2.2.2.2.1
abbrev xQ : State → Prop := X.2.2.2.2.2.2.2.2.2.2.1
abbrev xn0 : Nat := X.2.2.2.2.2.2.2.2.2.2.2.1
abbrev xs0 : Nat := X.2.2.2.2.2.2.2.2.2.2.2.2.1
abbrev xkb : Nat := X.2.2.2.2.2.2.2.2.2.2.2.2.2.1
abbrev xsb : Nat := X.2.2.2.2.2.2.2.2.2.2.2.2.2.2.1
abbrev xnL : Nat := X.2.2.2.2.2.2.2.2.2.2.2.2.2.2.2
end acc
def lw_g : List Cond := lw_tbl.filter goodWord
theorem gw {w : Cond} (h : w ∈ lw_tbl) (hg : goodWord w = true) : w ∈ lw_g := List.mem_filter.mpr ⟨h, hg⟩
theorem gw_good {w : Cond} (h : w ∈ lw_g) : goodWord w = true := (List.mem_filter.mp h).2
abbrev Dg (G : jG) : va_G := (G.2.1, G.2.2.1)
abbrev cAg (G : jG) : Nat → ClassId := G.2.2.2.1
abbrev sag (G : jG) : Nat → Nat := G.2.2.2.2.1
abbrev skg (G : jG) : Nat → Nat := G.2.2.2.2.2.1
abbrev svg (G : jG) : Nat → Nat := G.2.2.2.2.2.2
def Ab (G : jG) : Nat → Prop := fun q => G.1 ≤ q
def tf_L : List Int32 := [8, 10, 40, 50, 0, 20, 100, 2, 5, 0, 1013]
/-- the heap holds the store -/
def hp (G : jG) (h : Hp) (H : Heap) : Prop := va_P (Dg G) cls (cs (cAg G) G.1 h) H
def tysg (G : jG) : List (ClassId × FieldType) := [(cAg G 0, .int), (cAg G 1, .long), (cAg G 2, .boolean), (cAg G 3, .byte), (cAg G 16, .object RX6), (cAg G 11, .object RX1)]
/-- what the tables say: classes, array classes, links within the nest -/
def kn (G : jG) (U : State) : Prop := va_K (Dg G) cls (tysg G) U ∧ (∀ w ∈ NW, va_Nw w U) ∧ va_AO RX6 U ∧ va_AO RX1 U
/-- the first terms, whole: they are cloned -/
def stx (G : jG) (H : Heap) : Prop := ∃ cell : Cell, H[sag G 5]? = some cell ∧ cell.slots = (tf_L.map Value.int).toArray ∧ cell.cls = cAg G 0 ∧ cell.vm.isStatics = false ∧ cell.vm ≠ .unknown ∧ ¬ Ab G (sag G 5)
/-- the static arrays and the string constants -/
def stc (G : jG) (U : State) (H : Heap) : Prop := (∀ (i : Nat) (q : String × String × List Int32), ST[i]? = some q → va_Z q.1 q.2.1 "[I" (.ref (sag G i)) (Ab G) U H ∧ va_T .int (sag G i) q.2.2.length (fun j => .int (q.2.2.getD j 0)) (Ab G) U H) ∧ vk_S nKS lenKS bytKS (skg G) (svg G) (Ab G) U H ∧ va_Z "java/lang/String" "COMPACT_STRINGS" "Z" (.int 1) (Ab G) U H ∧ va_Zq "jdk/internal/util/Preconditions" "SIOOBE_FORMATTER" "Ljava/util/function/BiFunction;" (Ab G) U H ∧ stx G H
def stk (G : jG) (U : State) : Prop := ∀ (i : Nat) (q : String × Nat × String), KS[i]? = some q → vk_R q.1 q.2.1 q.2.2 (skg G i) U
def J (G : jG) (X : jX) (pc : Nat) (L : List (Nat × Value)) (st : List Value) (h : Hp) : Prop :=
  (hN h ≤ X.1.1 ∧ hS h ≤ X.1.2) ∧ ∀ (Y : jY) (y : X.2 = some Y) (H : Heap) (locs : List Loc) (ls : Array Slot), hp G h H → va_S (Ab G) (xs Y).heap H locs → lv_has ls (xnL Y) L → xn0 Y ≤ hN h → xs0 Y ≤ hS h → W (xP Y) (xl Y) (xe Y) (xR Y) (xs Y) (xm Y) (xa Y) (xb Y) (xM Y) (xc Y) H locs (xkb Y + (hN h - xn0 Y)) (xsb Y + (hS h - xs0 Y)) (xQ Y) (F0 (xm Y) pc ls st)
theorem J_mk {G : jG} {X : jX} {pc : Nat} {L : List (Nat × Value)} {st : List Value} {h : Hp} (h1 : hN h ≤ X.1.1 ∧ hS h ≤ X.1.2)
    (h2 : ∀ (Y : jY) (y : X.2 = some Y) (H : Heap) (locs : List Loc) (ls : Array Slot), hp G h H → va_S (Ab G) (xs Y).heap H locs → lv_has ls (xnL Y) L → xn0 Y ≤ hN h → xs0 Y ≤ hS h → W (xP Y) (xl Y) (xe Y) (xR Y) (xs Y) (xm Y) (xa Y) (xb Y) (xM Y) (xc Y) H locs (xkb Y + (hN h - xn0 Y)) (xsb Y + (hS h - xs0 Y)) (xQ Y) (F0 (xm Y) pc ls st)) : J G X pc L st h := And.intro h1 h2
/-- what a walk stands on -/
def jD (G : jG) (Y : jY) (nF sF : Nat) (cc : ByteArray) (nL : Nat) (own : String) (fr lo : Nat) : Prop :=
  ((xP Y).tables.exec = Jvm.exec) ∧ ((xc Y).code = cc) ∧ ((xc Y).maxLocals = nL) ∧ (xnL Y = nL) ∧ ((xs Y).vm.findClass own = some (xm Y).cls) ∧ (∀ w ∈ lw_g, w.before (xa Y) (xs Y) = true) ∧ (kn G (xs Y)) ∧ (stc G (xs Y) (xs Y).heap) ∧ (stk G (xs Y)) ∧ (G.1 ≤ (xs Y).heap.size) ∧ ((xs Y).heap.size + xkb Y = G.1 + NS + xn0 Y) ∧ ((xR Y).cells = xkb Y + (nF - xn0 Y)) ∧ ((xR Y).slots = xsb Y + (sF - xs0 Y)) ∧ ((xR Y).frames = fr) ∧ ((xR Y).locals = lo)
def jC (G : jG) (X : jX) (cc : ByteArray) (nL : Nat) (own : String) (fr lo : Nat) : Prop := ∀ (Y : jY), X.2 = some Y → jD G Y X.1.1 X.1.2 cc nL own fr lo
section jc
variable {G : jG} {Y : jY} {nF sF : Nat} {cc : ByteArray} {nL : Nat} {own : String} {fr lo : Nat}
theorem jD.x (C : jD G Y nF sF cc nL own fr lo) : (xP Y).tables.exec = Jvm.exec := C.1
theorem jD.b (C : jD G Y nF sF cc nL own fr lo) : (xc Y).code = cc := C.2.1
theorem jD.ml (C : jD G Y nF sF cc nL own fr lo) : (xc Y).maxLocals = nL := C.2.2.1
theorem jD.nl (C : jD G Y nF sF cc nL own fr lo) : xnL Y = nL := C.2.2.2.1
theorem jD.ow (C : jD G Y nF sF cc nL own fr lo) : (xs Y).vm.findClass own = some (xm Y).cls := C.2.2.2.2.1
theorem jD.ts (C : jD G Y nF sF cc nL own fr lo) : ∀ w ∈ lw_g, w.before (xa Y) (xs Y) = true := C.2.2.2.2.2.1
theorem jD.kn (C : jD G Y nF sF cc nL own fr lo) : kn G (xs Y) := C.2.2.2.2.2.2.1
theorem jD.st (C : jD G Y nF sF cc nL own fr lo) : stc G (xs Y) (xs Y).heap := C.2.2.2.2.2.2.2.1
theorem jD.sk (C : jD G Y nF sF cc nL own fr lo) : stk G (xs Y) := C.2.2.2.2.2.2.2.2.1
theorem jD.bs (C : jD G Y nF sF cc nL own fr lo) : G.1 ≤ (xs Y).heap.size := C.2.2.2.2.2.2.2.2.2.1
theorem jD.sz (C : jD G Y nF sF cc nL own fr lo) : (xs Y).heap.size + xkb Y = G.1 + NS + xn0 Y := C.2.2.2.2.2.2.2.2.2.2.1
theorem jD.rc (C : jD G Y nF sF cc nL own fr lo) : (xR Y).cells = xkb Y + (nF - xn0 Y) := C.2.2.2.2.2.2.2.2.2.2.2.1
theorem jD.rs (C : jD G Y nF sF cc nL own fr lo) : (xR Y).slots = xsb Y + (sF - xs0 Y) := C.2.2.2.2.2.2.2.2.2.2.2.2.1
theorem jD.fr_ (C : jD G Y nF sF cc nL own fr lo) : (xR Y).frames = fr := C.2.2.2.2.2.2.2.2.2.2.2.2.2.1
theorem jD.lo_ (C : jD G Y nF sF cc nL own fr lo) : (xR Y).locals = lo := C.2.2.2.2.2.2.2.2.2.2.2.2.2.2
theorem hp.D {h : Hp} {H : Heap} (_ : hp G h H) : va_D (Ab G) (cs (cAg G) G.1 h) := cs_D
theorem hp.at {h : Hp} {H : Heap} (_ : hp G h H) {j t n : Nat} (hj : nd h j t n) {e : va_E} (he : ce (cAg G) G.1 h j = e) : (cs (cAg G) G.1 h)[j]? = some (G.1 + j, e) := by rw [cs_get hj.2, he]
end jc
/-- the models' own words -/
abbrev ix (i : Int32) : Nat := i.toNatClampNeg
def ln (h : Hp) (r : Nat) : Nat := (kd h r).2
def ib {α : Type} (i : Int32) (n : Nat) (F : Option α) : Option α := if i < 0 ∨ n ≤ i.toNatClampNeg then none else F
def ak {α : Type} (h : Hp) (r t : Nat) (F : Option α) : Option α := if r < nid h ∧ (kd h r).1 = t then F else none
def nn {α : Type} (o : Option Nat) (F : Nat → Option α) : Option α := match o with
  | none => none
  | some r => F r
def nq {α : Type} (o : Option Nat) (A : Option α) (F : Nat → Option α) : Option α := match o with
  | none => A
  | some r => F r
def cn {α : Type} (y : Int32) (F : Option α) : Option α := if y = 0 then none else F
def cnL {α : Type} (y : Int64) (F : Option α) : Option α := if y = 0 then none else F
def bz {α : Type} (x : Int32) (F : Option α) : Option α := if x = 0 ∨ x = 1 then F else none
def nl {α : Type} (n : Int32) (F : Option α) : Option α := if n < 0 ∨ 65536 < n.toNatClampNeg then none else F
def oq {α : Type} (h : Hp) (o : Option Nat) (t : Nat) (F : Option α) : Option α := match o with
  | none => F
  | some r => ak h r t F
def cy {α : Type} (h : Hp) (a : Nat) (sp : Int32) (b : Nat) (dp n : Int32) (F : Option α) : Option α := if (a < nid h ∧ (kd h a).1 = 0) ∧ (b < nid h ∧ (kd h b).1 = 0) ∧ ¬ sp < 0 ∧ ¬ dp < 0 ∧ ¬ n < 0 ∧ ix sp + ix n ≤ ln h a ∧ ix dp + ix n ≤ ln h b then F else none
def lt {α : Type} {β : Type} (e : α) (F : α → β) : β := F e
def inr {σ τ : Type} (x : Option τ) : Option (σ ⊕ τ) := x.map Sum.inr
def lpn {σ τ : Type} (f : σ → Option (σ ⊕ τ)) : Nat → σ → Option τ
  | 0, _ => none
  | n + 1, s => match f s with
    | none => none
    | some (.inl s') => lpn f n s'
    | some (.inr t) => some t
/-- a loop's end, if it comes to one -/
noncomputable def lp {σ τ : Type} (f : σ → Option (σ ⊕ τ)) (s : σ) : Option τ := by
  classical
  exact if h : ∃ q : Nat × τ, lpn f q.1 s = some q.2 then some h.choose.2 else none
theorem lp_n {σ τ : Type} {f : σ → Option (σ ⊕ τ)} {s : σ} {t : τ} (h : lp f s = some t) : ∃ n, lpn f n s = some t := by
  unfold lp at h
  split at h
  · rename_i hx
    cases h
    exact ⟨_, hx.choose_spec⟩
  · cases h
theorem lpn_mono {σ τ : Type} {f : σ → Option (σ ⊕ τ)} {t : τ} : ∀ (n m : Nat) (s : σ), n ≤ m → lpn f n s = some t → lpn f m s = some t
  | 0, _, _, _, h => by cases h
  | n + 1, 0, _, hm, _ => absurd hm (by omega)
  | n + 1, m + 1, s, hm, h => by
    unfold lpn at h ⊢
    split at h
    · cases h
    · exact lpn_mono n m _ (by omega) h
    · exact h
theorem lp_of {σ τ : Type} {f : σ → Option (σ ⊕ τ)} {s : σ} {t : τ} {n : Nat} (h : lpn f n s = some t) : lp f s = some t := by
  have hx : ∃ q : Nat × τ, lpn f q.1 s = some q.2 := ⟨(n, t), h⟩
  unfold lp
  rw [dif_pos hx]
  have h1 := lpn_mono _ (max hx.choose.1 n) s (Nat.le_max_left _ _) hx.choose_spec
  have h2 := lpn_mono _ (max hx.choose.1 n) s (Nat.le_max_right _ _) h
  exact h1.symm.trans h2
theorem lp_ok {σ τ : Type} {f : σ → Option (σ ⊕ τ)} {P : σ → Prop} {O : τ → Prop} (hb : ∀ s r, f s = some r → Sum.elim P O r → P s) {s : σ} {t : τ} (h : lp f s = some t) (ht : O t) : P s := by
  obtain ⟨n, hn⟩ := lp_n h
  clear h
  induction n generalizing s with
  | zero => cases hn
  | succ n ih =>
    unfold lpn at hn
    split at hn
    · cases hn
    · rename_i s' e
      exact hb s _ e (ih hn)
    · rename_i t' e
      cases hn
      exact hb s _ e ht
theorem inr_inv {σ τ : Type} {x : Option τ} {o : σ ⊕ τ} (h : inr x = some o) : ∃ t, x = some t ∧ o = .inr t := by
  unfold inr at h
  cases x with
  | none => cases h
  | some t => cases h; exact ⟨t, rfl, rfl⟩
theorem bind_inv {α β : Type} {x : Option α} {F : α → Option β} {o : β} (h : x.bind F = some o) : ∃ u, x = some u ∧ F u = some o := by
  cases x with
  | none => cases h
  | some u => exact ⟨u, rfl, h⟩
theorem nn_inv {α : Type} {o : Option Nat} {F : Nat → Option α} {x : α} (h : nn o F = some x) : ∃ r, o = some r ∧ F r = some x := by
  cases o with
  | none => cases h
  | some r => exact ⟨r, rfl, h⟩
theorem nq_inv {α : Type} {o : Option Nat} {A : Option α} {F : Nat → Option α} {x : α} (h : nq o A F = some x) : (o = none ∧ A = some x) ∨ ∃ r, o = some r ∧ F r = some x := by
  cases o with
  | none => exact Or.inl ⟨rfl, h⟩
  | some r => exact Or.inr ⟨r, rfl, h⟩
theorem ib_inv {α : Type} {i : Int32} {n : Nat} {F : Option α} {x : α} (h : ib i n F = some x) : vp_in i n ∧ F = some x := by
  unfold ib at h
  split at h
  · cases h
  · rename_i q
    exact ⟨q, h⟩
theorem ak_inv {α : Type} {h : Hp} {r t : Nat} {F : Option α} {x : α} (e : ak h r t F = some x) : nd h r t (ln h r) ∧ F = some x := by
  unfold ak at e
  split at e
  · rename_i q
    exact ⟨⟨by rw [← q.2]; rfl, q.1⟩, e⟩
  · cases e
theorem cn_inv {α : Type} {y : Int32} {F : Option α} {x : α} (h : cn y F = some x) : ¬ y = 0 ∧ F = some x := by
  unfold cn at h
  split at h
  · cases h
  · rename_i q
    exact ⟨q, h⟩
theorem cnL_inv {α : Type} {y : Int64} {F : Option α} {x : α} (h : cnL y F = some x) : ¬ y = 0 ∧ F = some x := by
  unfold cnL at h
  split at h
  · cases h
  · rename_i q
    exact ⟨q, h⟩
theorem bz_inv {α : Type} {y : Int32} {F : Option α} {x : α} (h : bz y F = some x) : (y = 0 ∨ y = 1) ∧ F = some x := by
  unfold bz at h
  split at h
  · rename_i q
    exact ⟨q, h⟩
  · cases h
theorem nl_inv {α : Type} {n : Int32} {F : Option α} {x : α} (h : nl n F = some x) : (¬ n < 0 ∧ n.toNatClampNeg ≤ 65536) ∧ F = some x := by
  unfold nl at h
  split at h
  · cases h
  · rename_i q
    exact ⟨⟨fun z => q (Or.inl z), Nat.not_lt.mp fun z => q (Or.inr z)⟩, h⟩
theorem cy_inv {α : Type} {h : Hp} {a : Nat} {sp : Int32} {b : Nat} {dp n : Int32} {F : Option α} {x : α} (e : cy h a sp b dp n F = some x) : (nd h a 0 (ln h a) ∧ nd h b 0 (ln h b) ∧ ¬ sp < 0 ∧ ¬ dp < 0 ∧ ¬ n < 0 ∧ ix sp + ix n ≤ ln h a ∧ ix dp + ix n ≤ ln h b) ∧ F = some x := by
  unfold cy at e
  split at e
  · rename_i q
    obtain ⟨⟨a1, a2⟩, ⟨b1, b2⟩, c⟩ := q
    exact ⟨⟨⟨by rw [← a2]; rfl, a1⟩, ⟨by rw [← b2]; rfl, b1⟩, c⟩, e⟩
  · cases e
/-- a branch -/
theorem if_inv {α : Type} {c : Prop} [Decidable c] {A B : Option α} {x : α} (h : (if c then A else B) = some x) : (c ∧ A = some x) ∨ (¬ c ∧ B = some x) := by
  split at h
  · rename_i q
    exact Or.inl ⟨q, h⟩
  · rename_i q
    exact Or.inr ⟨q, h⟩
/-- names of the machine's numbers -/
def z_rem (x y : Int32) : Int32 := x - x / y * y
def z_lrem (x y : Int64) : Int64 := x - x / y * y
def z_shl (x y : Int32) : Int32 := x <<< (y &&& 31)
def z_shr (x y : Int32) : Int32 := x >>> (y &&& 31)
def z_ushr (x y : Int32) : Int32 := (x.toUInt32 >>> (y.toUInt32 &&& Int32.toUInt32 31)).toInt32
def z_lushr (x : Int64) (y : Int32) : Int64 := (x.toUInt64 >>> (y.toInt64.toUInt64 &&& Int64.toUInt64 63)).toInt64
def z_lshl (x : Int64) (y : Int32) : Int64 := x <<< (y.toInt64 &&& 63)
def z_lshr (x : Int64) (y : Int32) : Int64 := x >>> (y.toInt64 &&& 63)
def z_i2b (x : Int32) : Int32 := x.toInt8.toInt32
def z_i2s (x : Int32) : Int32 := x.toInt16.toInt32
def z_i2c (x : Int32) : Int32 := (x.toUInt32 % 65536).toInt32
def z_max (x y : Int32) : Int32 := if x < y then y else x
def z_min (x y : Int32) : Int32 := if y < x then y else x
def z_abs (x : Int32) : Int32 := if 0 ≤ x then x else 0 - x
def z_nz (x : Int32) : Int32 := vp_nar .boolean x
def z_nb (x : Int32) : Int32 := vp_nar .byte x
section rows
variable {G : jG} {X : jX} {cc : ByteArray} {nL : Nat} {own : String} {fr lo : Nat} {pc : Nat} {L L' : List (Nat × Value)} {st : List Value} {h : Hp}
theorem j_sub (ks : List Nat) (hl : lv_pick L ks = L') (K : J G X pc L' st h) : J G X pc L st h := J_mk K.1 fun Y y H locs ls a1 a2 a3 a4 a5 => K.2 Y y H locs ls a1 a2 (lv_sub a3 ks hl) a4 a5
theorem j_eqS {st' : List Value} (e : st = st') (K : J G X pc L st' h) : J G X pc L st h := e ▸ K
theorem j_iconst (C : jC G X cc nL own fr lo) {n : Int} (v : Int32) (d : decode cc pc = .ok (.iconst n, 1)) (hv : Int32.ofInt n = v) (K : J G X (pc + 1) L (.int v :: st) h) : J G X pc L st h := J_mk K.1 fun Y y H locs ls a1 a2 a3 a4 a5 => lv_iconst (C Y y).x (C Y y).b d hv (K.2 Y y H locs ls a1 a2 a3 a4 a5)
theorem j_bipush (C : jC G X cc nL own fr lo) {n : Int} (v : Int32) (d : decode cc pc = .ok (.bipush n, 2)) (hv : (Int8.ofInt n).toInt32 = v) (K : J G X (pc + 2) L (.int v :: st) h) : J G X pc L st h := J_mk K.1 fun Y y H locs ls a1 a2 a3 a4 a5 => lv_bipush (C Y y).x (C Y y).b d hv (K.2 Y y H locs ls a1 a2 a3 a4 a5)
theorem j_sipush (C : jC G X cc nL own fr lo) {n : Int} (v : Int32) (d : decode cc pc = .ok (.sipush n, 3)) (hv : (Int16.ofInt n).toInt32 = v) (K : J G X (pc + 3) L (.int v :: st) h) : J G X pc L st h := J_mk K.1 fun Y y H locs ls a1 a2 a3 a4 a5 => lv_sipush (C Y y).x (C Y y).b d hv (K.2 Y y H locs ls a1 a2 a3 a4 a5)
theorem j_lconst (C : jC G X cc nL own fr lo) {n : Fin 2} (v : Int64) (d : decode cc pc = .ok (.lconst n, 1)) (hv : Int64.ofNat (n : Nat) = v) (K : J G X (pc + 1) L (.long v :: st) h) : J G X pc L st h := J_mk K.1 fun Y y H locs ls a1 a2 a3 a4 a5 => lv_lconst (C Y y).x (C Y y).b d hv (K.2 Y y H locs ls a1 a2 a3 a4 a5)
theorem j_null (C : jC G X cc nL own fr lo) (d : decode cc pc = .ok (.aconst_null, 1)) (K : J G X (pc + 1) L (.null :: st) h) : J G X pc L st h := J_mk K.1 fun Y y H locs ls a1 a2 a3 a4 a5 => lv_null (C Y y).x (C Y y).b d (K.2 Y y H locs ls a1 a2 a3 a4 a5)
theorem j_ldc (C : jC G X cc nL own fr lo) {index : Nat} {v : Int32} (w : Jvm.Cond.constant own index v ∈ lw_g) (d : decode cc pc = .ok (.ldc index, 2)) (K : J G X (pc + 2) L (.int v :: st) h) : J G X pc L st h := J_mk K.1 fun Y y H locs ls a1 a2 a3 a4 a5 => lv_ldc (C Y y).x (C Y y).b (C Y y).ow ((C Y y).ts _ w) d (K.2 Y y H locs ls a1 a2 a3 a4 a5)
theorem j_ldc2 (C : jC G X cc nL own fr lo) {index : Nat} {v : Int64} (w : Jvm.Cond.constantLong own index v ∈ lw_g) (d : decode cc pc = .ok (.ldc2_w index, 3)) (K : J G X (pc + 3) L (.long v :: st) h) : J G X pc L st h := J_mk K.1 fun Y y H locs ls a1 a2 a3 a4 a5 => lv_ldc2 (C Y y).x (C Y y).b (C Y y).ow ((C Y y).ts _ w) d (K.2 Y y H locs ls a1 a2 a3 a4 a5)
theorem j_ldcS (C : jC G X cc nL own fr lo) {index i : Nat} {tx : String} (w : KS[i]? = some (own, index, tx)) (d : decode cc pc = .ok (.ldc index, 2)) (K : J G X (pc + 2) L (.ref (skg G i) :: st) h) : J G X pc L st h := J_mk K.1 fun Y y H locs ls a1 a2 a3 a4 a5 => va_ldcS (C Y y).x (C Y y).b (C Y y).ow ((C Y y).sk i _ w) d (K.2 Y y H locs ls a1 a2 a3 a4 a5)
theorem j_iload_n (C : jC G X cc nL own fr lo) (n : Nat) {k : Fin 4} {i : Nat} {x : Int32} (d : decode cc pc = .ok (.iload_n k, 1)) (hi : (k : Nat) = i) (hl : L[n]? = some (i, .int x)) (K : J G X (pc + 1) L (.int x :: st) h) : J G X pc L st h := J_mk K.1 fun Y y H locs ls a1 a2 a3 a4 a5 => lv_iload_n (C Y y).x (C Y y).b d hi (lv_at a3 n hl) (K.2 Y y H locs ls a1 a2 a3 a4 a5)
theorem j_iload (C : jC G X cc nL own fr lo) (n : Nat) {i : Nat} {x : Int32} (d : decode cc pc = .ok (.iload i, 2)) (hl : L[n]? = some (i, .int x)) (K : J G X (pc + 2) L (.int x :: st) h) : J G X pc L st h := J_mk K.1 fun Y y H locs ls a1 a2 a3 a4 a5 => lv_iload (C Y y).x (C Y y).b d (lv_at a3 n hl) (K.2 Y y H locs ls a1 a2 a3 a4 a5)
theorem j_lload_n (C : jC G X cc nL own fr lo) (n : Nat) {k : Fin 4} {i : Nat} {x : Int64} (d : decode cc pc = .ok (.lload_n k, 1)) (hi : (k : Nat) = i) (hl : L[n]? = some (i, .long x)) (K : J G X (pc + 1) L (.long x :: st) h) : J G X pc L st h := J_mk K.1 fun Y y H locs ls a1 a2 a3 a4 a5 => lv_lload_n (C Y y).x (C Y y).b d hi (lv_at a3 n hl) (K.2 Y y H locs ls a1 a2 a3 a4 a5)
theorem j_lload (C : jC G X cc nL own fr lo) (n : Nat) {i : Nat} {x : Int64} (d : decode cc pc = .ok (.lload i, 2)) (hl : L[n]? = some (i, .long x)) (K : J G X (pc + 2) L (.long x :: st) h) : J G X pc L st h := J_mk K.1 fun Y y H locs ls a1 a2 a3 a4 a5 => lv_lload (C Y y).x (C Y y).b d (lv_at a3 n hl) (K.2 Y y H locs ls a1 a2 a3 a4 a5)
theorem j_aload_n (C : jC G X cc nL own fr lo) (n : Nat) {k : Fin 4} {i : Nat} {x : Nat} (d : decode cc pc = .ok (.aload_n k, 1)) (hi : (k : Nat) = i) (hl : L[n]? = some (i, .ref x)) (K : J G X (pc + 1) L (.ref x :: st) h) : J G X pc L st h := J_mk K.1 fun Y y H locs ls a1 a2 a3 a4 a5 => lv_aload_n (C Y y).x (C Y y).b d hi (lv_at a3 n hl) (K.2 Y y H locs ls a1 a2 a3 a4 a5)
theorem j_aload (C : jC G X cc nL own fr lo) (n : Nat) {i : Nat} {x : Nat} (d : decode cc pc = .ok (.aload i, 2)) (hl : L[n]? = some (i, .ref x)) (K : J G X (pc + 2) L (.ref x :: st) h) : J G X pc L st h := J_mk K.1 fun Y y H locs ls a1 a2 a3 a4 a5 => lv_aload (C Y y).x (C Y y).b d (lv_at a3 n hl) (K.2 Y y H locs ls a1 a2 a3 a4 a5)
theorem j_istore_n (C : jC G X cc nL own fr lo) (L' : List (Nat × Value)) {k : Fin 4} {i : Nat} {x : Int32} (d : decode cc pc = .ok (.istore_n k, 1)) (hi : (k : Nat) = i) (hn : i < nL) (hl : (i, Value.int x) :: L.filter (fun q => !(q.1 == i) && !(q.1 + 1 == i && q.2.category == 2)) = L') (K : J G X (pc + 1) L' st h) : J G X pc L (.int x :: st) h := J_mk K.1 fun Y y H locs ls a1 a2 a3 a4 a5 => lv_istore_n (C Y y).x (C Y y).b d hi a3 (by rw [(C Y y).nl]; exact hn) hl (fun ls a3 => K.2 Y y H locs ls a1 a2 a3 a4 a5)
theorem j_istore (C : jC G X cc nL own fr lo) (L' : List (Nat × Value)) {i : Nat} {x : Int32} (d : decode cc pc = .ok (.istore i, 2)) (hn : i < nL) (hl : (i, Value.int x) :: L.filter (fun q => !(q.1 == i) && !(q.1 + 1 == i && q.2.category == 2)) = L') (K : J G X (pc + 2) L' st h) : J G X pc L (.int x :: st) h := J_mk K.1 fun Y y H locs ls a1 a2 a3 a4 a5 => lv_istore (C Y y).x (C Y y).b d a3 (by rw [(C Y y).nl]; exact hn) hl (fun ls a3 => K.2 Y y H locs ls a1 a2 a3 a4 a5)
theorem j_lstore_n (C : jC G X cc nL own fr lo) (L' : List (Nat × Value)) {k : Fin 4} {i : Nat} {x : Int64} (d : decode cc pc = .ok (.lstore_n k, 1)) (hi : (k : Nat) = i) (hn : i + 1 < nL) (hl : (i, Value.long x) :: L.filter (fun q => !(q.1 == i) && (!(q.1 == i + 1) && !(q.1 + 1 == i && q.2.category == 2))) = L') (K : J G X (pc + 1) L' st h) : J G X pc L (.long x :: st) h := J_mk K.1 fun Y y H locs ls a1 a2 a3 a4 a5 => lv_lstore_n (C Y y).x (C Y y).b d hi a3 (by rw [(C Y y).nl]; exact hn) hl (fun ls a3 => K.2 Y y H locs ls a1 a2 a3 a4 a5)
theorem j_lstore (C : jC G X cc nL own fr lo) (L' : List (Nat × Value)) {i : Nat} {x : Int64} (d : decode cc pc = .ok (.lstore i, 2)) (hn : i + 1 < nL) (hl : (i, Value.long x) :: L.filter (fun q => !(q.1 == i) && (!(q.1 == i + 1) && !(q.1 + 1 == i && q.2.category == 2))) = L') (K : J G X (pc + 2) L' st h) : J G X pc L (.long x :: st) h := J_mk K.1 fun Y y H locs ls a1 a2 a3 a4 a5 => lv_lstore (C Y y).x (C Y y).b d a3 (by rw [(C Y y).nl]; exact hn) hl (fun ls a3 => K.2 Y y H locs ls a1 a2 a3 a4 a5)
theorem j_astore_n (C : jC G X cc nL own fr lo) (L' : List (Nat × Value)) {k : Fin 4} {i : Nat} {x : Nat} (d : decode cc pc = .ok (.astore_n k, 1)) (hi : (k : Nat) = i) (hn : i < nL) (hl : (i, Value.ref x) :: L.filter (fun q => !(q.1 == i) && !(q.1 + 1 == i && q.2.category == 2)) = L') (K : J G X (pc + 1) L' st h) : J G X pc L (.ref x :: st) h := J_mk K.1 fun Y y H locs ls a1 a2 a3 a4 a5 => lv_astore_n (C Y y).x (C Y y).b d hi a3 (by rw [(C Y y).nl]; exact hn) hl (fun ls a3 => K.2 Y y H locs ls a1 a2 a3 a4 a5)
theorem j_astore (C : jC G X cc nL own fr lo) (L' : List (Nat × Value)) {i : Nat} {x : Nat} (d : decode cc pc = .ok (.astore i, 2)) (hn : i < nL) (hl : (i, Value.ref x) :: L.filter (fun q => !(q.1 == i) && !(q.1 + 1 == i && q.2.category == 2)) = L') (K : J G X (pc + 2) L' st h) : J G X pc L (.ref x :: st) h := J_mk K.1 fun Y y H locs ls a1 a2 a3 a4 a5 => lv_astore (C Y y).x (C Y y).b d a3 (by rw [(C Y y).nl]; exact hn) hl (fun ls a3 => K.2 Y y H locs ls a1 a2 a3 a4 a5)
theorem j_iinc (C : jC G X cc nL own fr lo) (k : Nat) (L' : List (Nat × Value)) {i : Nat} {n : Int} {x v : Int32} (d : decode cc pc = .ok (.iinc i n, 3)) (hk : L[k]? = some (i, .int x)) (hv : x + Int32.ofInt n = v) (hn : i < nL) (hl : (i, Value.int v) :: L.filter (fun q => !(q.1 == i) && !(q.1 + 1 == i && q.2.category == 2)) = L') (K : J G X (pc + 3) L' st h) : J G X pc L st h := J_mk K.1 fun Y y H locs ls a1 a2 a3 a4 a5 => lv_iinc (C Y y).x (C Y y).b d a3 hk hv (by rw [(C Y y).nl]; exact hn) hl (fun ls a3 => K.2 Y y H locs ls a1 a2 a3 a4 a5)
theorem j_iadd (C : jC G X cc nL own fr lo) {x y : Int32} (d : decode cc pc = .ok (.iadd, 1)) (K : J G X (pc + 1) L (.int (x + y) :: st) h) : J G X pc L (.int y :: .int x :: st) h := J_mk K.1 fun Y y H locs ls a1 a2 a3 a4 a5 => lv_iadd (C Y y).x (C Y y).b d (K.2 Y y H locs ls a1 a2 a3 a4 a5)
theorem j_isub (C : jC G X cc nL own fr lo) {x y : Int32} (d : decode cc pc = .ok (.isub, 1)) (K : J G X (pc + 1) L (.int (x - y) :: st) h) : J G X pc L (.int y :: .int x :: st) h := J_mk K.1 fun Y y H locs ls a1 a2 a3 a4 a5 => lv_isub (C Y y).x (C Y y).b d (K.2 Y y H locs ls a1 a2 a3 a4 a5)
theorem j_imul (C : jC G X cc nL own fr lo) {x y : Int32} (d : decode cc pc = .ok (.imul, 1)) (K : J G X (pc + 1) L (.int (x * y) :: st) h) : J G X pc L (.int y :: .int x :: st) h := J_mk K.1 fun Y y H locs ls a1 a2 a3 a4 a5 => lv_imul (C Y y).x (C Y y).b d (K.2 Y y H locs ls a1 a2 a3 a4 a5)
theorem j_iand (C : jC G X cc nL own fr lo) {x y : Int32} (d : decode cc pc = .ok (.iand, 1)) (K : J G X (pc + 1) L (.int (x &&& y) :: st) h) : J G X pc L (.int y :: .int x :: st) h := J_mk K.1 fun Y y H locs ls a1 a2 a3 a4 a5 => lv_iand (C Y y).x (C Y y).b d (K.2 Y y H locs ls a1 a2 a3 a4 a5)
theorem j_ior (C : jC G X cc nL own fr lo) {x y : Int32} (d : decode cc pc = .ok (.ior, 1)) (K : J G X (pc + 1) L (.int (x ||| y) :: st) h) : J G X pc L (.int y :: .int x :: st) h := J_mk K.1 fun Y y H locs ls a1 a2 a3 a4 a5 => lv_ior (C Y y).x (C Y y).b d (K.2 Y y H locs ls a1 a2 a3 a4 a5)
theorem j_ixor (C : jC G X cc nL own fr lo) {x y : Int32} (d : decode cc pc = .ok (.ixor, 1)) (K : J G X (pc + 1) L (.int (x ^^^ y) :: st) h) : J G X pc L (.int y :: .int x :: st) h := J_mk K.1 fun Y y H locs ls a1 a2 a3 a4 a5 => lv_ixor (C Y y).x (C Y y).b d (K.2 Y y H locs ls a1 a2 a3 a4 a5)
theorem j_ishl (C : jC G X cc nL own fr lo) {x y : Int32} (d : decode cc pc = .ok (.ishl, 1)) (K : J G X (pc + 1) L (.int (z_shl x y) :: st) h) : J G X pc L (.int y :: .int x :: st) h := J_mk K.1 fun Y y H locs ls a1 a2 a3 a4 a5 => lv_ishl (C Y y).x (C Y y).b d (K.2 Y y H locs ls a1 a2 a3 a4 a5)
theorem j_ishr (C : jC G X cc nL own fr lo) {x y : Int32} (d : decode cc pc = .ok (.ishr, 1)) (K : J G X (pc + 1) L (.int (z_shr x y) :: st) h) : J G X pc L (.int y :: .int x :: st) h := J_mk K.1 fun Y y H locs ls a1 a2 a3 a4 a5 => lv_ishr (C Y y).x (C Y y).b d (K.2 Y y H locs ls a1 a2 a3 a4 a5)
theorem j_iushr (C : jC G X cc nL own fr lo) {x y : Int32} (d : decode cc pc = .ok (.iushr, 1)) (K : J G X (pc + 1) L (.int (z_ushr x y) :: st) h) : J G X pc L (.int y :: .int x :: st) h := J_mk K.1 fun Y y H locs ls a1 a2 a3 a4 a5 => lv_iushr (C Y y).x (C Y y).b d rfl (K.2 Y y H locs ls a1 a2 a3 a4 a5)
theorem j_ladd (C : jC G X cc nL own fr lo) {x y : Int64} (d : decode cc pc = .ok (.ladd, 1)) (K : J G X (pc + 1) L (.long (x + y) :: st) h) : J G X pc L (.long y :: .long x :: st) h := J_mk K.1 fun Y y H locs ls a1 a2 a3 a4 a5 => lv_ladd (C Y y).x (C Y y).b d (K.2 Y y H locs ls a1 a2 a3 a4 a5)
theorem j_lsub (C : jC G X cc nL own fr lo) {x y : Int64} (d : decode cc pc = .ok (.lsub, 1)) (K : J G X (pc + 1) L (.long (x - y) :: st) h) : J G X pc L (.long y :: .long x :: st) h := J_mk K.1 fun Y y H locs ls a1 a2 a3 a4 a5 => lv_lsub (C Y y).x (C Y y).b d (K.2 Y y H locs ls a1 a2 a3 a4 a5)
theorem j_lmul (C : jC G X cc nL own fr lo) {x y : Int64} (d : decode cc pc = .ok (.lmul, 1)) (K : J G X (pc + 1) L (.long (x * y) :: st) h) : J G X pc L (.long y :: .long x :: st) h := J_mk K.1 fun Y y H locs ls a1 a2 a3 a4 a5 => lv_lmul (C Y y).x (C Y y).b d (K.2 Y y H locs ls a1 a2 a3 a4 a5)
theorem j_land (C : jC G X cc nL own fr lo) {x y : Int64} (d : decode cc pc = .ok (.land, 1)) (K : J G X (pc + 1) L (.long (x &&& y) :: st) h) : J G X pc L (.long y :: .long x :: st) h := J_mk K.1 fun Y y H locs ls a1 a2 a3 a4 a5 => lv_land (C Y y).x (C Y y).b d (K.2 Y y H locs ls a1 a2 a3 a4 a5)
theorem j_lor (C : jC G X cc nL own fr lo) {x y : Int64} (d : decode cc pc = .ok (.lor, 1)) (K : J G X (pc + 1) L (.long (x ||| y) :: st) h) : J G X pc L (.long y :: .long x :: st) h := J_mk K.1 fun Y y H locs ls a1 a2 a3 a4 a5 => lv_lor (C Y y).x (C Y y).b d (K.2 Y y H locs ls a1 a2 a3 a4 a5)
theorem j_lxor (C : jC G X cc nL own fr lo) {x y : Int64} (d : decode cc pc = .ok (.lxor, 1)) (K : J G X (pc + 1) L (.long (x ^^^ y) :: st) h) : J G X pc L (.long y :: .long x :: st) h := J_mk K.1 fun Y y H locs ls a1 a2 a3 a4 a5 => lv_lxor (C Y y).x (C Y y).b d (K.2 Y y H locs ls a1 a2 a3 a4 a5)
theorem j_lushr (C : jC G X cc nL own fr lo) {x : Int64} {y : Int32} (d : decode cc pc = .ok (.lushr, 1)) (K : J G X (pc + 1) L (.long (z_lushr x y) :: st) h) : J G X pc L (.int y :: .long x :: st) h := J_mk K.1 fun Y y H locs ls a1 a2 a3 a4 a5 => lv_lushr (C Y y).x (C Y y).b d rfl (K.2 Y y H locs ls a1 a2 a3 a4 a5)
theorem j_lshl (C : jC G X cc nL own fr lo) {x : Int64} {y : Int32} (d : decode cc pc = .ok (.lshl, 1)) (K : J G X (pc + 1) L (.long (z_lshl x y) :: st) h) : J G X pc L (.int y :: .long x :: st) h := J_mk K.1 fun Y y H locs ls a1 a2 a3 a4 a5 => lv_lshl (C Y y).x (C Y y).b d rfl (K.2 Y y H locs ls a1 a2 a3 a4 a5)
theorem j_lshr (C : jC G X cc nL own fr lo) {x : Int64} {y : Int32} (d : decode cc pc = .ok (.lshr, 1)) (K : J G X (pc + 1) L (.long (z_lshr x y) :: st) h) : J G X pc L (.int y :: .long x :: st) h := J_mk K.1 fun Y y H locs ls a1 a2 a3 a4 a5 => lv_lshr (C Y y).x (C Y y).b d rfl (K.2 Y y H locs ls a1 a2 a3 a4 a5)
theorem j_lcmp (C : jC G X cc nL own fr lo) {x y : Int64} (d : decode cc pc = .ok (.lcmp, 1)) (K : J G X (pc + 1) L (.int (lg_cmp x y) :: st) h) : J G X pc L (.long y :: .long x :: st) h := J_mk K.1 fun Y y H locs ls a1 a2 a3 a4 a5 => W.lcmp (C Y y).x (C Y y).b d (K.2 Y y H locs ls a1 a2 a3 a4 a5)
theorem j_idiv (C : jC G X cc nL own fr lo) {x y : Int32} (d : decode cc pc = .ok (.idiv, 1)) (hz : ¬ y = 0) (K : J G X (pc + 1) L (.int (x / y) :: st) h) : J G X pc L (.int y :: .int x :: st) h := J_mk K.1 fun Y y H locs ls a1 a2 a3 a4 a5 => lv_idiv (C Y y).x (C Y y).b d hz (K.2 Y y H locs ls a1 a2 a3 a4 a5)
theorem j_irem (C : jC G X cc nL own fr lo) {x y : Int32} (d : decode cc pc = .ok (.irem, 1)) (hz : ¬ y = 0) (K : J G X (pc + 1) L (.int (z_rem x y) :: st) h) : J G X pc L (.int y :: .int x :: st) h := J_mk K.1 fun Y y H locs ls a1 a2 a3 a4 a5 => lv_irem (C Y y).x (C Y y).b d hz (K.2 Y y H locs ls a1 a2 a3 a4 a5)
theorem j_ldiv (C : jC G X cc nL own fr lo) {x y : Int64} (d : decode cc pc = .ok (.ldiv, 1)) (hz : ¬ y = 0) (K : J G X (pc + 1) L (.long (x / y) :: st) h) : J G X pc L (.long y :: .long x :: st) h := J_mk K.1 fun Y y H locs ls a1 a2 a3 a4 a5 => lv_ldiv (C Y y).x (C Y y).b d hz (K.2 Y y H locs ls a1 a2 a3 a4 a5)
theorem j_lrem (C : jC G X cc nL own fr lo) {x y : Int64} (d : decode cc pc = .ok (.lrem, 1)) (hz : ¬ y = 0) (K : J G X (pc + 1) L (.long (z_lrem x y) :: st) h) : J G X pc L (.long y :: .long x :: st) h := J_mk K.1 fun Y y H locs ls a1 a2 a3 a4 a5 => lv_lrem (C Y y).x (C Y y).b d hz (K.2 Y y H locs ls a1 a2 a3 a4 a5)
theorem j_ineg (C : jC G X cc nL own fr lo) {x : Int32} (d : decode cc pc = .ok (.ineg, 1)) (K : J G X (pc + 1) L (.int (-x) :: st) h) : J G X pc L (.int x :: st) h := J_mk K.1 fun Y y H locs ls a1 a2 a3 a4 a5 => lv_ineg (C Y y).x (C Y y).b d (K.2 Y y H locs ls a1 a2 a3 a4 a5)
theorem j_lneg (C : jC G X cc nL own fr lo) {x : Int64} (d : decode cc pc = .ok (.lneg, 1)) (K : J G X (pc + 1) L (.long (-x) :: st) h) : J G X pc L (.long x :: st) h := J_mk K.1 fun Y y H locs ls a1 a2 a3 a4 a5 => lv_lneg (C Y y).x (C Y y).b d (K.2 Y y H locs ls a1 a2 a3 a4 a5)
theorem j_i2l (C : jC G X cc nL own fr lo) {x : Int32} (d : decode cc pc = .ok (.i2l, 1)) (K : J G X (pc + 1) L (.long (Int32.toInt64 x) :: st) h) : J G X pc L (.int x :: st) h := J_mk K.1 fun Y y H locs ls a1 a2 a3 a4 a5 => lv_i2l (C Y y).x (C Y y).b d rfl (K.2 Y y H locs ls a1 a2 a3 a4 a5)
theorem j_l2i (C : jC G X cc nL own fr lo) {x : Int64} (d : decode cc pc = .ok (.l2i, 1)) (K : J G X (pc + 1) L (.int (Int64.toInt32 x) :: st) h) : J G X pc L (.long x :: st) h := J_mk K.1 fun Y y H locs ls a1 a2 a3 a4 a5 => lv_l2i (C Y y).x (C Y y).b d rfl (K.2 Y y H locs ls a1 a2 a3 a4 a5)
theorem j_i2b (C : jC G X cc nL own fr lo) {x : Int32} (d : decode cc pc = .ok (.i2b, 1)) (K : J G X (pc + 1) L (.int (z_i2b x) :: st) h) : J G X pc L (.int x :: st) h := J_mk K.1 fun Y y H locs ls a1 a2 a3 a4 a5 => lv_i2b (C Y y).x (C Y y).b d rfl (K.2 Y y H locs ls a1 a2 a3 a4 a5)
theorem j_i2s (C : jC G X cc nL own fr lo) {x : Int32} (d : decode cc pc = .ok (.i2s, 1)) (K : J G X (pc + 1) L (.int (z_i2s x) :: st) h) : J G X pc L (.int x :: st) h := J_mk K.1 fun Y y H locs ls a1 a2 a3 a4 a5 => lv_i2s (C Y y).x (C Y y).b d rfl (K.2 Y y H locs ls a1 a2 a3 a4 a5)
theorem j_i2c (C : jC G X cc nL own fr lo) {x : Int32} (d : decode cc pc = .ok (.i2c, 1)) (K : J G X (pc + 1) L (.int (z_i2c x) :: st) h) : J G X pc L (.int x :: st) h := J_mk K.1 fun Y y H locs ls a1 a2 a3 a4 a5 => lv_i2c (C Y y).x (C Y y).b d rfl (K.2 Y y H locs ls a1 a2 a3 a4 a5)
theorem j_dup (C : jC G X cc nL own fr lo) {va : Value} (d : decode cc pc = .ok (.dup, 1)) (ha : va.category = 1) (K : J G X (pc + 1) L (va :: va :: st) h) : J G X pc L (va :: st) h := J_mk K.1 fun Y y H locs ls a1 a2 a3 a4 a5 => lv_dup (C Y y).x (C Y y).b d ha (K.2 Y y H locs ls a1 a2 a3 a4 a5)
theorem j_pop (C : jC G X cc nL own fr lo) {va : Value} (d : decode cc pc = .ok (.pop, 1)) (ha : va.category = 1) (K : J G X (pc + 1) L st h) : J G X pc L (va :: st) h := J_mk K.1 fun Y y H locs ls a1 a2 a3 a4 a5 => lv_pop (C Y y).x (C Y y).b d ha (K.2 Y y H locs ls a1 a2 a3 a4 a5)
theorem j_pop2 (C : jC G X cc nL own fr lo) {va : Value} (d : decode cc pc = .ok (.pop2, 1)) (ha : va.category = 2) (K : J G X (pc + 1) L st h) : J G X pc L (va :: st) h := J_mk K.1 fun Y y H locs ls a1 a2 a3 a4 a5 => lv_pop2_2 (C Y y).x (C Y y).b d ha (K.2 Y y H locs ls a1 a2 a3 a4 a5)
theorem j_dup2_2 (C : jC G X cc nL own fr lo) {va : Value} (d : decode cc pc = .ok (.dup2, 1)) (ha : va.category = 2) (K : J G X (pc + 1) L (va :: va :: st) h) : J G X pc L (va :: st) h := J_mk K.1 fun Y y H locs ls a1 a2 a3 a4 a5 => lv_dup2_2 (C Y y).x (C Y y).b d ha (K.2 Y y H locs ls a1 a2 a3 a4 a5)
theorem j_dup2_11 (C : jC G X cc nL own fr lo) {va vb : Value} (d : decode cc pc = .ok (.dup2, 1)) (ha : va.category = 1) (hb : vb.category = 1) (K : J G X (pc + 1) L (va :: vb :: va :: vb :: st) h) : J G X pc L (va :: vb :: st) h := J_mk K.1 fun Y y H locs ls a1 a2 a3 a4 a5 => lv_dup2_11 (C Y y).x (C Y y).b d ha hb (K.2 Y y H locs ls a1 a2 a3 a4 a5)
theorem j_dup_x1 (C : jC G X cc nL own fr lo) {va vb : Value} (d : decode cc pc = .ok (.dup_x1, 1)) (ha : va.category = 1) (hb : vb.category = 1) (K : J G X (pc + 1) L (va :: vb :: va :: st) h) : J G X pc L (va :: vb :: st) h := J_mk K.1 fun Y y H locs ls a1 a2 a3 a4 a5 => lv_dup_x1 (C Y y).x (C Y y).b d ha hb (K.2 Y y H locs ls a1 a2 a3 a4 a5)
theorem j_dup_x2 (C : jC G X cc nL own fr lo) {va vb vd : Value} (d : decode cc pc = .ok (.dup_x2, 1)) (ha : va.category = 1) (hb : vb.category = 1) (hd : vd.category = 1) (K : J G X (pc + 1) L (va :: vb :: vd :: va :: st) h) : J G X pc L (va :: vb :: vd :: st) h := J_mk K.1 fun Y y H locs ls a1 a2 a3 a4 a5 => lv_dup_x2 (C Y y).x (C Y y).b d ha hb hd (K.2 Y y H locs ls a1 a2 a3 a4 a5)
theorem j_goto (C : jC G X cc nL own fr lo) (tgt : Nat) {off : Int} (d : decode cc pc = .ok (.goto off, 3)) (ht : (pc : Int) + off = (tgt : Int)) (K : J G X tgt L st h) : J G X pc L st h := J_mk K.1 fun Y y H locs ls a1 a2 a3 a4 a5 => lv_goto (C Y y).x (C Y y).b d ht (K.2 Y y H locs ls a1 a2 a3 a4 a5)
theorem ab {c : Prop} {D : Prop} (z : c) (q : ¬ c) : D := absurd z q
theorem ab' {c : Prop} {D : Prop} (z : ¬ c) (q : c) : D := absurd q z
theorem j_ifeq (C : jC G X cc nL own fr lo) (tgt : Nat) {off : Int} {x : Int32} {α : Type} {A B : Option α} {x_ : α} (d : decode cc pc = .ok (.ifCond .eq off, 3)) (ht : (pc : Int) + off = (tgt : Int)) (hm : (if x = 0 then A else B) = some x_) (K1 : A = some x_ → J G X tgt L st h) (K2 : B = some x_ → J G X (pc + 3) L st h) : J G X pc L (.int x :: st) h := by
  rcases if_inv hm with ⟨q, hm⟩ | ⟨q, hm⟩
  · exact J_mk (K1 hm).1 fun Y y H locs ls a1 a2 a3 a4 a5 => lv_if_eq (C Y y).x (C Y y).b d ht (fun _ => (K1 hm).2 Y y H locs ls a1 a2 a3 a4 a5) (fun z => by first | exact absurd z q | exact absurd q z)
  · exact J_mk (K2 hm).1 fun Y y H locs ls a1 a2 a3 a4 a5 => lv_if_eq (C Y y).x (C Y y).b d ht (fun z => by first | exact absurd z q | exact absurd q z) (fun _ => (K2 hm).2 Y y H locs ls a1 a2 a3 a4 a5)
theorem j_ifne (C : jC G X cc nL own fr lo) (tgt : Nat) {off : Int} {x : Int32} {α : Type} {A B : Option α} {x_ : α} (d : decode cc pc = .ok (.ifCond .ne off, 3)) (ht : (pc : Int) + off = (tgt : Int)) (hm : (if x = 0 then A else B) = some x_) (K1 : A = some x_ → J G X (pc + 3) L st h) (K2 : B = some x_ → J G X tgt L st h) : J G X pc L (.int x :: st) h := by
  rcases if_inv hm with ⟨q, hm⟩ | ⟨q, hm⟩
  · exact J_mk (K1 hm).1 fun Y y H locs ls a1 a2 a3 a4 a5 => lv_if_ne (C Y y).x (C Y y).b d ht (fun z => by first | exact absurd z q | exact absurd q z) (fun _ => (K1 hm).2 Y y H locs ls a1 a2 a3 a4 a5)
  · exact J_mk (K2 hm).1 fun Y y H locs ls a1 a2 a3 a4 a5 => lv_if_ne (C Y y).x (C Y y).b d ht (fun _ => (K2 hm).2 Y y H locs ls a1 a2 a3 a4 a5) (fun z => by first | exact absurd z q | exact absurd q z)
theorem j_iflt (C : jC G X cc nL own fr lo) (tgt : Nat) {off : Int} {x : Int32} {α : Type} {A B : Option α} {x_ : α} (d : decode cc pc = .ok (.ifCond .lt off, 3)) (ht : (pc : Int) + off = (tgt : Int)) (hm : (if x < 0 then A else B) = some x_) (K1 : A = some x_ → J G X tgt L st h) (K2 : B = some x_ → J G X (pc + 3) L st h) : J G X pc L (.int x :: st) h := by
  rcases if_inv hm with ⟨q, hm⟩ | ⟨q, hm⟩
  · exact J_mk (K1 hm).1 fun Y y H locs ls a1 a2 a3 a4 a5 => lv_if_lt (C Y y).x (C Y y).b d ht (fun _ => (K1 hm).2 Y y H locs ls a1 a2 a3 a4 a5) (fun z => by first | exact absurd z q | exact absurd q z)
  · exact J_mk (K2 hm).1 fun Y y H locs ls a1 a2 a3 a4 a5 => lv_if_lt (C Y y).x (C Y y).b d ht (fun z => by first | exact absurd z q | exact absurd q z) (fun _ => (K2 hm).2 Y y H locs ls a1 a2 a3 a4 a5)
theorem j_ifge (C : jC G X cc nL own fr lo) (tgt : Nat) {off : Int} {x : Int32} {α : Type} {A B : Option α} {x_ : α} (d : decode cc pc = .ok (.ifCond .ge off, 3)) (ht : (pc : Int) + off = (tgt : Int)) (hm : (if 0 ≤ x then A else B) = some x_) (K1 : A = some x_ → J G X tgt L st h) (K2 : B = some x_ → J G X (pc + 3) L st h) : J G X pc L (.int x :: st) h := by
  rcases if_inv hm with ⟨q, hm⟩ | ⟨q, hm⟩
  · exact J_mk (K1 hm).1 fun Y y H locs ls a1 a2 a3 a4 a5 => lv_if_ge (C Y y).x (C Y y).b d ht (fun _ => (K1 hm).2 Y y H locs ls a1 a2 a3 a4 a5) (fun z => by first | exact absurd z q | exact absurd q z)
  · exact J_mk (K2 hm).1 fun Y y H locs ls a1 a2 a3 a4 a5 => lv_if_ge (C Y y).x (C Y y).b d ht (fun z => by first | exact absurd z q | exact absurd q z) (fun _ => (K2 hm).2 Y y H locs ls a1 a2 a3 a4 a5)
theorem j_ifgt (C : jC G X cc nL own fr lo) (tgt : Nat) {off : Int} {x : Int32} {α : Type} {A B : Option α} {x_ : α} (d : decode cc pc = .ok (.ifCond .gt off, 3)) (ht : (pc : Int) + off = (tgt : Int)) (hm : (if 0 < x then A else B) = some x_) (K1 : A = some x_ → J G X tgt L st h) (K2 : B = some x_ → J G X (pc + 3) L st h) : J G X pc L (.int x :: st) h := by
  rcases if_inv hm with ⟨q, hm⟩ | ⟨q, hm⟩
  · exact J_mk (K1 hm).1 fun Y y H locs ls a1 a2 a3 a4 a5 => lv_if_gt (C Y y).x (C Y y).b d ht (fun _ => (K1 hm).2 Y y H locs ls a1 a2 a3 a4 a5) (fun z => by first | exact absurd z q | exact absurd q z)
  · exact J_mk (K2 hm).1 fun Y y H locs ls a1 a2 a3 a4 a5 => lv_if_gt (C Y y).x (C Y y).b d ht (fun z => by first | exact absurd z q | exact absurd q z) (fun _ => (K2 hm).2 Y y H locs ls a1 a2 a3 a4 a5)
theorem j_ifle (C : jC G X cc nL own fr lo) (tgt : Nat) {off : Int} {x : Int32} {α : Type} {A B : Option α} {x_ : α} (d : decode cc pc = .ok (.ifCond .le off, 3)) (ht : (pc : Int) + off = (tgt : Int)) (hm : (if x ≤ 0 then A else B) = some x_) (K1 : A = some x_ → J G X tgt L st h) (K2 : B = some x_ → J G X (pc + 3) L st h) : J G X pc L (.int x :: st) h := by
  rcases if_inv hm with ⟨q, hm⟩ | ⟨q, hm⟩
  · exact J_mk (K1 hm).1 fun Y y H locs ls a1 a2 a3 a4 a5 => lv_if_le (C Y y).x (C Y y).b d ht (fun _ => (K1 hm).2 Y y H locs ls a1 a2 a3 a4 a5) (fun z => by first | exact absurd z q | exact absurd q z)
  · exact J_mk (K2 hm).1 fun Y y H locs ls a1 a2 a3 a4 a5 => lv_if_le (C Y y).x (C Y y).b d ht (fun z => by first | exact absurd z q | exact absurd q z) (fun _ => (K2 hm).2 Y y H locs ls a1 a2 a3 a4 a5)
theorem j_if_icmpeq (C : jC G X cc nL own fr lo) (tgt : Nat) {off : Int} {x y : Int32} {α : Type} {A B : Option α} {x_ : α} (d : decode cc pc = .ok (.if_icmp .eq off, 3)) (ht : (pc : Int) + off = (tgt : Int)) (hm : (if x = y then A else B) = some x_) (K1 : A = some x_ → J G X tgt L st h) (K2 : B = some x_ → J G X (pc + 3) L st h) : J G X pc L (.int y :: .int x :: st) h := by
  rcases if_inv hm with ⟨q, hm⟩ | ⟨q, hm⟩
  · exact J_mk (K1 hm).1 fun Y y H locs ls a1 a2 a3 a4 a5 => lv_icmp_eq (C Y y).x (C Y y).b d ht (fun _ => (K1 hm).2 Y y H locs ls a1 a2 a3 a4 a5) (fun z => by first | exact absurd z q | exact absurd q z)
  · exact J_mk (K2 hm).1 fun Y y H locs ls a1 a2 a3 a4 a5 => lv_icmp_eq (C Y y).x (C Y y).b d ht (fun z => by first | exact absurd z q | exact absurd q z) (fun _ => (K2 hm).2 Y y H locs ls a1 a2 a3 a4 a5)
theorem j_if_icmpne (C : jC G X cc nL own fr lo) (tgt : Nat) {off : Int} {x y : Int32} {α : Type} {A B : Option α} {x_ : α} (d : decode cc pc = .ok (.if_icmp .ne off, 3)) (ht : (pc : Int) + off = (tgt : Int)) (hm : (if x = y then A else B) = some x_) (K1 : A = some x_ → J G X (pc + 3) L st h) (K2 : B = some x_ → J G X tgt L st h) : J G X pc L (.int y :: .int x :: st) h := by
  rcases if_inv hm with ⟨q, hm⟩ | ⟨q, hm⟩
  · exact J_mk (K1 hm).1 fun Y y H locs ls a1 a2 a3 a4 a5 => lv_icmp_ne (C Y y).x (C Y y).b d ht (fun z => by first | exact absurd z q | exact absurd q z) (fun _ => (K1 hm).2 Y y H locs ls a1 a2 a3 a4 a5)
  · exact J_mk (K2 hm).1 fun Y y H locs ls a1 a2 a3 a4 a5 => lv_icmp_ne (C Y y).x (C Y y).b d ht (fun _ => (K2 hm).2 Y y H locs ls a1 a2 a3 a4 a5) (fun z => by first | exact absurd z q | exact absurd q z)
theorem j_if_icmplt (C : jC G X cc nL own fr lo) (tgt : Nat) {off : Int} {x y : Int32} {α : Type} {A B : Option α} {x_ : α} (d : decode cc pc = .ok (.if_icmp .lt off, 3)) (ht : (pc : Int) + off = (tgt : Int)) (hm : (if x < y then A else B) = some x_) (K1 : A = some x_ → J G X tgt L st h) (K2 : B = some x_ → J G X (pc + 3) L st h) : J G X pc L (.int y :: .int x :: st) h := by
  rcases if_inv hm with ⟨q, hm⟩ | ⟨q, hm⟩
  · exact J_mk (K1 hm).1 fun Y y H locs ls a1 a2 a3 a4 a5 => lv_icmp_lt (C Y y).x (C Y y).b d ht (fun _ => (K1 hm).2 Y y H locs ls a1 a2 a3 a4 a5) (fun z => by first | exact absurd z q | exact absurd q z)
  · exact J_mk (K2 hm).1 fun Y y H locs ls a1 a2 a3 a4 a5 => lv_icmp_lt (C Y y).x (C Y y).b d ht (fun z => by first | exact absurd z q | exact absurd q z) (fun _ => (K2 hm).2 Y y H locs ls a1 a2 a3 a4 a5)
theorem j_if_icmpge (C : jC G X cc nL own fr lo) (tgt : Nat) {off : Int} {x y : Int32} {α : Type} {A B : Option α} {x_ : α} (d : decode cc pc = .ok (.if_icmp .ge off, 3)) (ht : (pc : Int) + off = (tgt : Int)) (hm : (if y ≤ x then A else B) = some x_) (K1 : A = some x_ → J G X tgt L st h) (K2 : B = some x_ → J G X (pc + 3) L st h) : J G X pc L (.int y :: .int x :: st) h := by
  rcases if_inv hm with ⟨q, hm⟩ | ⟨q, hm⟩
  · exact J_mk (K1 hm).1 fun Y y H locs ls a1 a2 a3 a4 a5 => lv_icmp_ge (C Y y).x (C Y y).b d ht (fun _ => (K1 hm).2 Y y H locs ls a1 a2 a3 a4 a5) (fun z => by first | exact absurd z q | exact absurd q z)
  · exact J_mk (K2 hm).1 fun Y y H locs ls a1 a2 a3 a4 a5 => lv_icmp_ge (C Y y).x (C Y y).b d ht (fun z => by first | exact absurd z q | exact absurd q z) (fun _ => (K2 hm).2 Y y H locs ls a1 a2 a3 a4 a5)
theorem j_if_icmpgt (C : jC G X cc nL own fr lo) (tgt : Nat) {off : Int} {x y : Int32} {α : Type} {A B : Option α} {x_ : α} (d : decode cc pc = .ok (.if_icmp .gt off, 3)) (ht : (pc : Int) + off = (tgt : Int)) (hm : (if y < x then A else B) = some x_) (K1 : A = some x_ → J G X tgt L st h) (K2 : B = some x_ → J G X (pc + 3) L st h) : J G X pc L (.int y :: .int x :: st) h := by
  rcases if_inv hm with ⟨q, hm⟩ | ⟨q, hm⟩
  · exact J_mk (K1 hm).1 fun Y y H locs ls a1 a2 a3 a4 a5 => lv_icmp_gt (C Y y).x (C Y y).b d ht (fun _ => (K1 hm).2 Y y H locs ls a1 a2 a3 a4 a5) (fun z => by first | exact absurd z q | exact absurd q z)
  · exact J_mk (K2 hm).1 fun Y y H locs ls a1 a2 a3 a4 a5 => lv_icmp_gt (C Y y).x (C Y y).b d ht (fun z => by first | exact absurd z q | exact absurd q z) (fun _ => (K2 hm).2 Y y H locs ls a1 a2 a3 a4 a5)
theorem j_if_icmple (C : jC G X cc nL own fr lo) (tgt : Nat) {off : Int} {x y : Int32} {α : Type} {A B : Option α} {x_ : α} (d : decode cc pc = .ok (.if_icmp .le off, 3)) (ht : (pc : Int) + off = (tgt : Int)) (hm : (if x ≤ y then A else B) = some x_) (K1 : A = some x_ → J G X tgt L st h) (K2 : B = some x_ → J G X (pc + 3) L st h) : J G X pc L (.int y :: .int x :: st) h := by
  rcases if_inv hm with ⟨q, hm⟩ | ⟨q, hm⟩
  · exact J_mk (K1 hm).1 fun Y y H locs ls a1 a2 a3 a4 a5 => lv_icmp_le (C Y y).x (C Y y).b d ht (fun _ => (K1 hm).2 Y y H locs ls a1 a2 a3 a4 a5) (fun z => by first | exact absurd z q | exact absurd q z)
  · exact J_mk (K2 hm).1 fun Y y H locs ls a1 a2 a3 a4 a5 => lv_icmp_le (C Y y).x (C Y y).b d ht (fun z => by first | exact absurd z q | exact absurd q z) (fun _ => (K2 hm).2 Y y H locs ls a1 a2 a3 a4 a5)
theorem j_ifnull (C : jC G X cc nL own fr lo) {a : Nat} {off : Int} (d : decode cc pc = .ok (.ifnull off, 3)) (K : J G X (pc + 3) L st h) : J G X pc L (.ref a :: st) h := J_mk K.1 fun Y y H locs ls a1 a2 a3 a4 a5 => lv_ifnull (C Y y).x (C Y y).b d (K.2 Y y H locs ls a1 a2 a3 a4 a5)
theorem j_ifnonnull (C : jC G X cc nL own fr lo) (tgt : Nat) {a : Nat} {off : Int} (d : decode cc pc = .ok (.ifnonnull off, 3)) (ht : (pc : Int) + off = (tgt : Int)) (K : J G X tgt L st h) : J G X pc L (.ref a :: st) h := J_mk K.1 fun Y y H locs ls a1 a2 a3 a4 a5 => lv_ifnonnull (C Y y).x (C Y y).b d ht (K.2 Y y H locs ls a1 a2 a3 a4 a5)
theorem j_ifnullN (C : jC G X cc nL own fr lo) (tgt : Nat) {off : Int} (d : decode cc pc = .ok (.ifnull off, 3)) (ht : (pc : Int) + off = (tgt : Int)) (K : J G X tgt L st h) : J G X pc L (.null :: st) h := J_mk K.1 fun Y y H locs ls a1 a2 a3 a4 a5 => lv_ifnullN (C Y y).x (C Y y).b d ht (K.2 Y y H locs ls a1 a2 a3 a4 a5)
theorem j_ifnonnullN (C : jC G X cc nL own fr lo) {off : Int} (d : decode cc pc = .ok (.ifnonnull off, 3)) (K : J G X (pc + 3) L st h) : J G X pc L (.null :: st) h := J_mk K.1 fun Y y H locs ls a1 a2 a3 a4 a5 => lv_ifnonnullN (C Y y).x (C Y y).b d (K.2 Y y H locs ls a1 a2 a3 a4 a5)
end rows
theorem W.sz {p : Program} {l : Launch} {e : Env} {R : Room} {s : State} {m : MethodId} {args : Array Value} {below : List Frame} {meth : Method} {c : Code} {H : Heap} {locs : List Loc} {cells slots : Nat} {Q : State → Prop} {g : JFrame} (k : H.size ≤ s.heap.size + cells → W p l e R s m args below meth c H locs cells slots Q g) : W p l e R s m args below meth c H locs cells slots Q g := fun T hT X => k (by rw [← hT]; exact X.same.2.2.1) T hT X
def rv (G : jG) (o : Option Nat) : Value := va_rf (o.map (G.1 + ·))
/-- a link to a field: class number, place, kind (0 int, 1 long, 2 reference, 3 boolean), final -/
def tyOK (ty : Nat) (t : FieldType) : Prop := (ty = 0 ∧ t = .int) ∨ (ty = 3 ∧ t = .boolean) ∨ (ty = 1 ∧ t = .long) ∨ (ty = 2 ∧ ((∃ n, t = .object n) ∨ ∃ q, t = .array q))
def fF (own : String) (index ci k ty : Nat) (fin : Bool) : Prop := ∃ (Cn : String) (T : u_T) (N : Nat) (tyf : Nat → FieldType), cls[ci]? = some (Cn, T, N) ∧ (∀ w ∈ u_ws Cn T N, w ∈ lw_g) ∧ k < N ∧ Cond.fieldLink own index (T k).1 (T k).2.1 (T k).2.2.1 ∈ lw_g ∧ (FT.getD ci [])[k]? = some ty ∧ (∀ k, k < N → parseFieldDescriptor (T k).2.2.1 = some (tyf k)) ∧ (∀ a, a < N → ∀ b, b < N → a ≠ b → (T a).2.1 ≠ (T b).2.1) ∧ tyOK ty (tyf k) ∧ (T k).2.2.2 = fin
section heap
variable {G : jG} {X : jX} {cc : ByteArray} {nL : Nat} {own : String} {fr lo : Nat} {pc : Nat} {L L' : List (Nat × Value)} {st : List Value} {h : Hp} {α : Type} {F : Option α} {x_ : α}
theorem j_size {Y : jY} {nF sF : Nat} (C : jD G Y nF sF cc nL own fr lo) {H : Heap} {locs : List Loc} (a1 : hp G h H) (a2 : va_S (Ab G) (xs Y).heap H locs) (a4 : xn0 Y ≤ hN h) (hz : H.size ≤ (xs Y).heap.size + (xkb Y + (hN h - xn0 Y))) : H.size = G.1 + nid h := by
  have h1 := C.sz
  have h0 := C.bs
  have hs := a2.1
  have hu : H.size ≤ G.1 + nid h := by unfold nid; omega
  by_cases h2 : nid h - 1 < nid h
  · have h3 : G.1 + (nid h - 1) < H.size := va_at.lt (a1 (nid h - 1) _ (cs_get h2))
    omega
  · omega
theorem j_nm {τ : Type} {e : τ} {F : τ → Option α} {P : τ → Prop} (hm : lt e F = some x_) (K : ∀ x, F x = some x_ → P x) : P e := K e hm
theorem j_nmI {x : Int32} {F' : Int32 → Option α} (hm : lt x F' = some x_) (K : ∀ x, F' x = some x_ → J G X pc L (.int x :: st) h) : J G X pc L (.int x :: st) h := K x hm
theorem j_nmL {x : Int64} {F' : Int64 → Option α} (hm : lt x F' = some x_) (K : ∀ x, F' x = some x_ → J G X pc L (.long x :: st) h) : J G X pc L (.long x :: st) h := K x hm
theorem j_nmH {F' : Hp → Option α} (hm : lt h F' = some x_) (K : ∀ h, F' h = some x_ → J G X pc L st h) : J G X pc L st h := K h hm
theorem fv_at {own : String} {index ci k ty : Nat} {fin : Bool} {b j : Nat} (f : fF own index ci k ty fin) : (obF b h j 0 (FT.getD ci []))[k]? = some (fv b h j k ty) := by
  obtain ⟨Cn, T, N, tyf, f1, f2, f3, f4, f5, -⟩ := f
  rw [obF_get _ _ _ _ _ _ _ f5, Nat.zero_add]
/-- a field is read, of any kind -/
theorem j_get (C : jC G X cc nL own fr lo) {index ci k ty n j : Nat} {fin : Bool} (f : fF own index ci k ty fin) (hj : nd h j (100 + ci) n) {v : Value} (hv : fv G.1 h j k ty = v) (d : decode cc pc = .ok (.getfield index, 3)) (K : J G X (pc + 3) L (v :: st) h) : J G X pc L (.ref (G.1 + j) :: st) h := by
  have hg := fv_at (h := h) (b := G.1) (j := j) f
  rw [hv] at hg
  obtain ⟨Cn, T, N, tyf, f1, f2, f3, f4, f5, f6, f7, f8, f9⟩ := f
  refine J_mk K.1 fun Y y H locs ls a1 a2 a3 a4 a5 => ?_
  exact va_get (C Y y).x (C Y y).b (C Y y).ts f2 (C Y y).ow (C Y y).kn.1 a1 j (a1.at hj (ce_o hj.1)) f1 k f3 ((C Y y).ts _ f4) (fun _ q => q) hg d (K.2 Y y H locs ls a1 a2 a3 a4 a5)
theorem j_gI (C : jC G X cc nL own fr lo) {index ci k n j : Nat} {fin : Bool} (f : fF own index ci k 0 fin) (hj : nd h j (100 + ci) n) (d : decode cc pc = .ok (.getfield index, 3)) (K : J G X (pc + 3) L (.int (hI h j k) :: st) h) : J G X pc L (.ref (G.1 + j) :: st) h := j_get C f hj rfl d K
theorem j_gZ (C : jC G X cc nL own fr lo) {index ci k n j : Nat} {fin : Bool} (f : fF own index ci k 3 fin) (hj : nd h j (100 + ci) n) (d : decode cc pc = .ok (.getfield index, 3)) (K : J G X (pc + 3) L (.int (hI h j k) :: st) h) : J G X pc L (.ref (G.1 + j) :: st) h := j_get C f hj rfl d K
theorem j_gL (C : jC G X cc nL own fr lo) {index ci k n j : Nat} {fin : Bool} (f : fF own index ci k 1 fin) (hj : nd h j (100 + ci) n) (d : decode cc pc = .ok (.getfield index, 3)) (K : J G X (pc + 3) L (.long (hL h j k) :: st) h) : J G X pc L (.ref (G.1 + j) :: st) h := j_get C f hj rfl d K
theorem j_gS (C : jC G X cc nL own fr lo) {index ci k n j r : Nat} {fin : Bool} (f : fF own index ci k 2 fin) (hj : nd h j (100 + ci) n) (hr : rs j k = some r) (d : decode cc pc = .ok (.getfield index, 3)) (K : J G X (pc + 3) L (.ref (G.1 + r) :: st) h) : J G X pc L (.ref (G.1 + j) :: st) h :=
  j_get C f hj (show va_rf ((rf h j k).map (G.1 + ·)) = .ref (G.1 + r) by rw [rf, hr]; rfl) d K
theorem j_gR (C : jC G X cc nL own fr lo) {index ci k n j : Nat} {fin : Bool} (f : fF own index ci k 2 fin) (hj : nd h j (100 + ci) n) (hr : rs j k = none) (d : decode cc pc = .ok (.getfield index, 3)) (K : J G X (pc + 3) L (rv G (hR h j k) :: st) h) : J G X pc L (.ref (G.1 + j) :: st) h :=
  j_get C f hj (show va_rf ((rf h j k).map (G.1 + ·)) = rv G (hR h j k) by rw [rf, hr]; rfl) d K
theorem j_gN (C : jC G X cc nL own fr lo) {index ci k n j : Nat} {fin : Bool} {F' : Nat → Option α} (f : fF own index ci k 2 fin) (hj : nd h j (100 + ci) n) (hm : nn (rf h j k) F' = some x_) (d : decode cc pc = .ok (.getfield index, 3)) (K : ∀ r, F' r = some x_ → J G X (pc + 3) L (.ref (G.1 + r) :: st) h) : J G X pc L (.ref (G.1 + j) :: st) h := by
  obtain ⟨r, e, hm⟩ := nn_inv hm
  exact j_get C f hj (show va_rf ((rf h j k).map (G.1 + ·)) = .ref (G.1 + r) by rw [e]; rfl) d (K r hm)
/-- the heap behind a write of node j -/
theorem hp_set {h' : Hp} {H1 : Heap} {j : Nat} {e : va_E} (hj : j < nid h) (hn : hN h' = hN h) (he : ce (cAg G) G.1 h' j = e) (ho : ∀ i, i ≠ j → ce (cAg G) G.1 h' i = ce (cAg G) G.1 h i) (hP : va_P (Dg G) cls ((cs (cAg G) G.1 h).set j (G.1 + j, e)) H1) : hp G h' H1 := by
  rw [cs_set hj hn he ho] at hP
  exact hP
/-- a field is written, of any kind -/
theorem j_put (C : jC G X cc nL own fr lo) {h' : Hp} {index ci k ty n j : Nat} (f : fF own index ci k ty false) (hj : nd h j (100 + ci) n) {v : Value} (hfit : ∀ t, tyOK ty t → narrow t v = v ∧ fits t v = true) (hn : hN h' = hN h) (hs : hS h' = hS h) (hk : kd h' j = kd h j) (ho : ∀ i, i ≠ j → ce (cAg G) G.1 h' i = ce (cAg G) G.1 h i) (hq : ∀ q, q ≠ k → ∀ t, fv G.1 h' j q t = fv G.1 h j q t) (hv : fv G.1 h' j k ty = v) (d : decode cc pc = .ok (.putfield index, 3)) (K : J G X (pc + 3) L st h') : J G X pc L (v :: .ref (G.1 + j) :: st) h := by
  have hg := fv_at (h := h) (b := G.1) (j := j) f
  obtain ⟨Cn, T, N, tyf, f1, f2, f3, f4, f5, f6, f7, f8, f9⟩ := f
  refine J_mk (by rw [← hn, ← hs]; exact K.1) fun Y y H locs ls a1 a2 a3 a4 a5 => ?_
  refine va_put (C Y y).x (C Y y).b (C Y y).ts f2 tyf f6 f7 (C Y y).ow (C Y y).kn.1 a1 a1.D a2 j (a1.at hj (ce_o hj.1)) f1 k f3 ((C Y y).ts _ f4) (fun _ q => q) f9 (f6 k f3) (hfit _ f8).1 (hfit _ f8).2 (by rw [List.getElem?_eq_some_iff] at hg; exact hg.1) d (fun H1 locs1 p1 p2 p3 => ?_)
  have hw : ce (cAg G) G.1 h' j = .inr (ci, (obF G.1 h j 0 (FT.getD ci [])).set k v) := by
    rw [ce_o (hk.trans hj.1), obF_set G.1 h h' j (FT.getD ci []) 0 k v (fun q z t => hq q (by omega) t) (fun t ht => by rw [Nat.zero_add, ← hv]; rw [f5] at ht; cases ht; rfl)]
  have := K.2 Y y H1 locs1 ls (hp_set hj.2 hn hw ho p1) p3 a3 (by rw [hn]; exact a4) (by rw [hs]; exact a5)
  rw [hn, hs] at this
  exact this
theorem fv_sI {b j k : Nat} {v : Int32} (q : Nat) (hq : q ≠ k) (t : Nat) : fv b (sI h j k v) j q t = fv b h j q t := fv_congr (h := h) (h' := sI h j k v) (by rw [hI_sI]; exact if_neg hq) rfl rfl t
theorem fv_sL {b j k : Nat} {v : Int64} (q : Nat) (hq : q ≠ k) (t : Nat) : fv b (sL h j k v) j q t = fv b h j q t := fv_congr (h := h) (h' := sL h j k v) rfl (by rw [hL_sL]; exact if_neg hq) rfl t
theorem fv_sR {b j k : Nat} {v : Option Nat} (q : Nat) (hq : q ≠ k) (t : Nat) : fv b (sR h j k v) j q t = fv b h j q t := by
  refine fv_congr (h := h) (h' := sR h j k v) rfl rfl ?_ t
  have e : hR (sR h j k v) j q = hR h j q := by rw [hR_sR]; exact if_neg hq
  rw [rf, rf, e]
theorem j_pI (C : jC G X cc nL own fr lo) {index ci k n j : Nat} {v : Int32} (f : fF own index ci k 0 false) (hj : nd h j (100 + ci) n) (d : decode cc pc = .ok (.putfield index, 3)) (K : J G X (pc + 3) L st (sI h j k v)) : J G X pc L (.int v :: .ref (G.1 + j) :: st) h :=
  j_put (h' := sI h j k v) C f hj (fun t ht => by
    rcases ht with ⟨-, rfl⟩ | ⟨z, -⟩ | ⟨z, -⟩ | ⟨z, -⟩
    · exact ⟨rfl, rfl⟩
    all_goals cases z) rfl rfl rfl (fun i hi => ce_sI_ne hi) fv_sI (by show Value.int (hI (sI h j k v) j k) = _; rw [hI_sI]; simp [upd]) d K
theorem j_pZ (C : jC G X cc nL own fr lo) {index ci k n j : Nat} {v : Int32} (f : fF own index ci k 3 false) (hj : nd h j (100 + ci) n) (hb : v = 0 ∨ v = 1) (d : decode cc pc = .ok (.putfield index, 3)) (K : J G X (pc + 3) L st (sI h j k v)) : J G X pc L (.int v :: .ref (G.1 + j) :: st) h :=
  j_put (h' := sI h j k v) C f hj (fun t ht => by
    rcases ht with ⟨z, -⟩ | ⟨-, rfl⟩ | ⟨z, -⟩ | ⟨z, -⟩
    · cases z
    · rcases hb with rfl | rfl <;> exact ⟨by decide, by decide⟩
    all_goals cases z) rfl rfl rfl (fun i hi => ce_sI_ne hi) fv_sI (by show Value.int (hI (sI h j k v) j k) = _; rw [hI_sI]; simp [upd]) d K
theorem j_pL (C : jC G X cc nL own fr lo) {index ci k n j : Nat} {v : Int64} (f : fF own index ci k 1 false) (hj : nd h j (100 + ci) n) (d : decode cc pc = .ok (.putfield index, 3)) (K : J G X (pc + 3) L st (sL h j k v)) : J G X pc L (.long v :: .ref (G.1 + j) :: st) h :=
  j_put (h' := sL h j k v) C f hj (fun t ht => by
    rcases ht with ⟨z, -⟩ | ⟨z, -⟩ | ⟨-, rfl⟩ | ⟨z, -⟩
    · cases z
    · cases z
    · exact ⟨rfl, rfl⟩
    · cases z) rfl rfl rfl (fun i hi => ce_sL_ne hi) fv_sL (by show Value.long (hL (sL h j k v) j k) = _; rw [hL_sL]; simp [vp_updL]) d K
theorem j_pR (C : jC G X cc nL own fr lo) {index ci k n j : Nat} {o : Option Nat} (f : fF own index ci k 2 false) (hj : nd h j (100 + ci) n) (hr : rs j k = none) (d : decode cc pc = .ok (.putfield index, 3)) (K : J G X (pc + 3) L st (sR h j k o)) : J G X pc L (rv G o :: .ref (G.1 + j) :: st) h :=
  j_put (h' := sR h j k o) C f hj (fun t ht => by
    rcases ht with ⟨z, -⟩ | ⟨z, -⟩ | ⟨z, -⟩ | ⟨-, ht⟩
    · cases z
    · cases z
    · cases z
    · rcases ht with ⟨n, rfl⟩ | ⟨q, rfl⟩ <;> cases o <;> exact ⟨rfl, rfl⟩) rfl rfl rfl (fun i hi => ce_sR_ne hi) fv_sR (by show va_rf ((rf (sR h j k o) j k).map (G.1 + ·)) = _; rw [rf, hr]; show va_rf ((hR (sR h j k o) j k).map (G.1 + ·)) = _; rw [hR_sR]; simp [va_up, rv]) d K
/-- arrays: reads -/
theorem j_iald (C : jC G X cc nL own fr lo) {i : Int32} {n j : Nat} (hj : nd h j 0 n) (hm : ib i n F = some x_) (d : decode cc pc = .ok (.iaload, 1)) (K : F = some x_ → J G X (pc + 1) L (.int (hI h j (ix i)) :: st) h) : J G X pc L (.int i :: .ref (G.1 + j) :: st) h := by
  obtain ⟨hi, hm⟩ := ib_inv hm
  exact J_mk (K hm).1 fun Y y H locs ls a1 a2 a3 a4 a5 => va_iald (C Y y).x (C Y y).b (C Y y).kn.1 a1 j 0 (a1.at hj (ce_i hj.1 (by omega) (by omega))) rfl hi d ((K hm).2 Y y H locs ls a1 a2 a3 a4 a5)
theorem j_zald (C : jC G X cc nL own fr lo) {i : Int32} {n j : Nat} (hj : nd h j 2 n) (hm : ib i n F = some x_) (d : decode cc pc = .ok (.baload, 1)) (K : F = some x_ → J G X (pc + 1) L (.int (hI h j (ix i)) :: st) h) : J G X pc L (.int i :: .ref (G.1 + j) :: st) h := by
  obtain ⟨hi, hm⟩ := ib_inv hm
  exact J_mk (K hm).1 fun Y y H locs ls a1 a2 a3 a4 a5 => va_zald (C Y y).x (C Y y).b (C Y y).kn.1 a1 j 2 (a1.at hj (ce_i hj.1 (by omega) (by omega))) rfl hi d ((K hm).2 Y y H locs ls a1 a2 a3 a4 a5)
theorem j_bald (C : jC G X cc nL own fr lo) {i : Int32} {n j : Nat} (hj : nd h j 3 n) (hm : ib i n F = some x_) (d : decode cc pc = .ok (.baload, 1)) (K : F = some x_ → J G X (pc + 1) L (.int (hI h j (ix i)) :: st) h) : J G X pc L (.int i :: .ref (G.1 + j) :: st) h := by
  obtain ⟨hi, hm⟩ := ib_inv hm
  exact J_mk (K hm).1 fun Y y H locs ls a1 a2 a3 a4 a5 => va_bald (C Y y).x (C Y y).b (C Y y).kn.1 a1 j 3 (a1.at hj (ce_i hj.1 (by omega) (by omega))) rfl hi d ((K hm).2 Y y H locs ls a1 a2 a3 a4 a5)
theorem j_lald (C : jC G X cc nL own fr lo) {i : Int32} {n j : Nat} (hj : nd h j 1 n) (hm : ib i n F = some x_) (d : decode cc pc = .ok (.laload, 1)) (K : F = some x_ → J G X (pc + 1) L (.long (hL h j (ix i)) :: st) h) : J G X pc L (.int i :: .ref (G.1 + j) :: st) h := by
  obtain ⟨hi, hm⟩ := ib_inv hm
  exact J_mk (K hm).1 fun Y y H locs ls a1 a2 a3 a4 a5 => va_lald (C Y y).x (C Y y).b (C Y y).kn.1 a1 j 1 (a1.at hj (ce_l hj.1)) rfl hi d ((K hm).2 Y y H locs ls a1 a2 a3 a4 a5)
/-- a row of references without static entries -/
theorem rs_nil {j : Nat} (hr : RS.getD j [] = []) (k : Nat) : rs j k = none := by rw [rs, hr]; rfl
theorem rf_nil {h : Hp} {j k : Nat} (hr : RS.getD j [] = []) : rf h j k = hR h j k := by
  unfold rf
  rw [rs_nil hr]
theorem j_aald (C : jC G X cc nL own fr lo) {i : Int32} {t n j p : Nat} {Cn : String} (hj : nd h j t n) (h1 : 10 ≤ t) (h2 : t < 100) (ht : (tysg G)[p]? = some (cAg G t, .object Cn)) (hm : ib i n F = some x_) (d : decode cc pc = .ok (.aaload, 1)) (K : F = some x_ → J G X (pc + 1) L (rv G (rf h j (ix i)) :: st) h) : J G X pc L (.int i :: .ref (G.1 + j) :: st) h := by
  obtain ⟨hi, hm⟩ := ib_inv hm
  exact J_mk (K hm).1 fun Y y H locs ls a1 a2 a3 a4 a5 => va_aldq (C Y y).x (C Y y).b (C Y y).kn.1 a1 j p (a1.at hj (ce_q hj.1 h1 h2)) ht hi d ((K hm).2 Y y H locs ls a1 a2 a3 a4 a5)
/-- a row of references with static entries alone: which one is a branch of the model -/
theorem j_alen (C : jC G X cc nL own fr lo) {n j : Nat} (v : Int32) (hj : nd h j 0 n) (hv : Int32.ofNat n = v) (d : decode cc pc = .ok (.arraylength, 1)) (K : J G X (pc + 1) L (.int v :: st) h) : J G X pc L (.ref (G.1 + j) :: st) h :=
  J_mk K.1 fun Y y H locs ls a1 a2 a3 a4 a5 => va_alen (C Y y).x (C Y y).b (C Y y).kn.1 a1 j 0 (a1.at hj (ce_i hj.1 (by omega) (by omega))) rfl hv d (K.2 Y y H locs ls a1 a2 a3 a4 a5)
theorem j_alenL (C : jC G X cc nL own fr lo) {n j : Nat} (v : Int32) (hj : nd h j 1 n) (hv : Int32.ofNat n = v) (d : decode cc pc = .ok (.arraylength, 1)) (K : J G X (pc + 1) L (.int v :: st) h) : J G X pc L (.ref (G.1 + j) :: st) h :=
  J_mk K.1 fun Y y H locs ls a1 a2 a3 a4 a5 => va_alen (C Y y).x (C Y y).b (C Y y).kn.1 a1 j 1 (a1.at hj (ce_l hj.1)) rfl hv d (K.2 Y y H locs ls a1 a2 a3 a4 a5)
/-- arrays: writes -/
theorem j_iast (C : jC G X cc nL own fr lo) {i v : Int32} {n j : Nat} (hj : nd h j 0 n) (hm : ib i n F = some x_) (d : decode cc pc = .ok (.iastore, 1)) (K : F = some x_ → J G X (pc + 1) L st (sI h j (ix i) v)) : J G X pc L (.int v :: .int i :: .ref (G.1 + j) :: st) h := by
  obtain ⟨hi, hm⟩ := ib_inv hm
  refine J_mk (K hm).1 fun Y y H locs ls a1 a2 a3 a4 a5 => va_iast (C Y y).x (C Y y).b (C Y y).kn.1 a1 a1.D a2 j 0 (a1.at hj (ce_i hj.1 (by omega) (by omega))) rfl hi d (fun H1 locs1 p1 p2 p3 => ?_)
  exact (K hm).2 Y y H1 locs1 ls (hp_set (h := h) (h' := sI h j (ix i) v) hj.2 rfl ((ce_i ((kd_sI j).trans hj.1) (by omega) (by omega)).trans (by rw [hI_sI])) (fun i hi => ce_sI_ne hi) p1) p3 a3 a4 a5
theorem j_zast (C : jC G X cc nL own fr lo) {i v : Int32} {n j : Nat} (hj : nd h j 2 n) (hm : ib i n F = some x_) (d : decode cc pc = .ok (.bastore, 1)) (K : F = some x_ → J G X (pc + 1) L st (sI h j (ix i) (z_nz v))) : J G X pc L (.int v :: .int i :: .ref (G.1 + j) :: st) h := by
  obtain ⟨hi, hm⟩ := ib_inv hm
  refine J_mk (K hm).1 fun Y y H locs ls a1 a2 a3 a4 a5 => va_zast (C Y y).x (C Y y).b (C Y y).kn.1 a1 a1.D a2 j 2 (a1.at hj (ce_i hj.1 (by omega) (by omega))) rfl hi d (fun H1 locs1 p1 p2 p3 => ?_)
  exact (K hm).2 Y y H1 locs1 ls (hp_set (h := h) (h' := sI h j (ix i) (z_nz v)) hj.2 rfl ((ce_i ((kd_sI j).trans hj.1) (by omega) (by omega)).trans (by rw [hI_sI]; rfl)) (fun i hi => ce_sI_ne hi) p1) p3 a3 a4 a5
theorem j_bast (C : jC G X cc nL own fr lo) {i v : Int32} {n j : Nat} (hj : nd h j 3 n) (hm : ib i n F = some x_) (d : decode cc pc = .ok (.bastore, 1)) (K : F = some x_ → J G X (pc + 1) L st (sI h j (ix i) (z_nb v))) : J G X pc L (.int v :: .int i :: .ref (G.1 + j) :: st) h := by
  obtain ⟨hi, hm⟩ := ib_inv hm
  refine J_mk (K hm).1 fun Y y H locs ls a1 a2 a3 a4 a5 => va_bast (C Y y).x (C Y y).b (C Y y).kn.1 a1 a1.D a2 j 3 (a1.at hj (ce_i hj.1 (by omega) (by omega))) rfl hi d (fun H1 locs1 p1 p2 p3 => ?_)
  exact (K hm).2 Y y H1 locs1 ls (hp_set (h := h) (h' := sI h j (ix i) (z_nb v)) hj.2 rfl ((ce_i ((kd_sI j).trans hj.1) (by omega) (by omega)).trans (by rw [hI_sI]; rfl)) (fun i hi => ce_sI_ne hi) p1) p3 a3 a4 a5
theorem j_last (C : jC G X cc nL own fr lo) {i : Int32} {v : Int64} {n j : Nat} (hj : nd h j 1 n) (hm : ib i n F = some x_) (d : decode cc pc = .ok (.lastore, 1)) (K : F = some x_ → J G X (pc + 1) L st (sL h j (ix i) v)) : J G X pc L (.long v :: .int i :: .ref (G.1 + j) :: st) h := by
  obtain ⟨hi, hm⟩ := ib_inv hm
  refine J_mk (K hm).1 fun Y y H locs ls a1 a2 a3 a4 a5 => va_last (C Y y).x (C Y y).b (C Y y).kn.1 a1 a1.D a2 j 1 (a1.at hj (ce_l hj.1)) rfl hi d (fun H1 locs1 p1 p2 p3 => ?_)
  exact (K hm).2 Y y H1 locs1 ls (hp_set (h := h) (h' := sL h j (ix i) v) hj.2 rfl ((ce_l ((kd_sL j).trans hj.1)).trans (by rw [hL_sL])) (fun i hi => ce_sL_ne hi) p1) p3 a3 a4 a5
/-- a reference, or null, into the row of laws -/
theorem rf_sR0 {j k : Nat} {o : Option Nat} (hr : RS.getD j [] = []) (b : Nat) : (fun q => (rf (sR h j k o) j q).map (b + ·)) = va_up (fun q => (rf h j q).map (b + ·)) k (o.map (b + ·)) := by
  have e1 : (fun q => (rf (sR h j k o) j q).map (b + ·)) = fun q => (va_up (hR h j) k o q).map (b + ·) := funext fun q => by rw [rf_nil hr, hR_sR]
  have e2 : (fun q => (rf h j q).map (b + ·)) = fun q => (hR h j q).map (b + ·) := funext fun q => by rw [rf_nil hr]
  rw [e1, e2]
  funext q
  by_cases hq : q = k
  · subst hq; simp [va_up]
  · simp [va_up, hq]
theorem j_aast (C : jC G X cc nL own fr lo) {i : Int32} {n j : Nat} {o : Option Nat} (hj : nd h j 11 n) (hr : RS.getD j [] = []) (hm : ib i n (oq h o 101 F) = some x_) (d : decode cc pc = .ok (.aastore, 1)) (K : F = some x_ → J G X (pc + 1) L st (sR h j (ix i) o)) : J G X pc L (rv G o :: .int i :: .ref (G.1 + j) :: st) h := by
  obtain ⟨hi, hm⟩ := ib_inv hm
  have key : ∀ H1, va_P (Dg G) cls ((cs (cAg G) G.1 h).set j (G.1 + j, .inl (cAg G 11, n, .inr (.inr (.inr (.inr (va_up (fun q => (rf h j q).map (G.1 + ·)) (ix i) (o.map (G.1 + ·))))))))) H1 → hp G (sR h j (ix i) o) H1 := fun H1 p1 =>
    hp_set (h := h) (h' := sR h j (ix i) o) hj.2 rfl ((ce_q ((kd_sR j).trans hj.1) (by omega) (by omega)).trans (by rw [rf_sR0 hr])) (fun i hi => ce_sR_ne hi) p1
  cases o with
  | none =>
    have hm : F = some x_ := hm
    exact J_mk (K hm).1 fun Y y H locs ls a1 a2 a3 a4 a5 => va_astqN (C := RX1) (C Y y).x (C Y y).b (C Y y).kn.1 a1 a1.D a2 j 5 (a1.at hj (ce_q hj.1 (by omega) (by omega))) rfl hi d (fun H1 locs1 p1 p2 p3 => (K hm).2 Y y H1 locs1 ls (key H1 p1) p3 a3 a4 a5)
  | some r =>
    obtain ⟨hrd, hm⟩ := ak_inv (show ak h r 101 F = some x_ from hm)
    exact J_mk (K hm).1 fun Y y H locs ls a1 a2 a3 a4 a5 => va_astq (r := (RX1, TX1, 2)) (C Y y).x (C Y y).b (C Y y).kn.1 a1 a1.D a2 j 5 r 1 (a1.at hj (ce_q hj.1 (by omega) (by omega))) rfl (a1.at hrd (ce_o (c := 1) hrd.1)) rfl hi d (fun H1 locs1 p1 p2 p3 => (K hm).2 Y y H1 locs1 ls (key H1 p1) p3 a3 a4 a5)
/-- static arrays -/
theorem j_gs (C : jC G X cc nL own fr lo) {index i : Nat} {q : String × String × List Int32} (hq : ST[i]? = some q) (w : Cond.fieldLink own index q.1 q.2.1 "[I" ∈ lw_g) (d : decode cc pc = .ok (.getstatic index, 3)) (K : J G X (pc + 3) L (.ref (sag G i) :: st) h) : J G X pc L st h :=
  J_mk K.1 fun Y y H locs ls a1 a2 a3 a4 a5 => va_gets (C Y y).x (C Y y).b ((C Y y).st.1 i q hq).1 a2 (C Y y).ow ((C Y y).ts _ w) (fun _ z => z) d (K.2 Y y H locs ls a1 a2 a3 a4 a5)
theorem j_gsN (C : jC G X cc nL own fr lo) {index i : Nat} {q : String × String × List Int32} {host : String} (hq : ST[i]? = some q) (w : Cond.fieldLinkNest own index q.1 q.2.1 "[I" host ∈ NW) (d : decode cc pc = .ok (.getstatic index, 3)) (K : J G X (pc + 3) L (.ref (sag G i) :: st) h) : J G X pc L st h :=
  J_mk K.1 fun Y y H locs ls a1 a2 a3 a4 a5 => va_getsN (C Y y).x (C Y y).b ((C Y y).st.1 i q hq).1 a2 (C Y y).ow (va_Nw.use rfl ((C Y y).kn.2.1 _ w)) (fun _ z => z) d (K.2 Y y H locs ls a1 a2 a3 a4 a5)
theorem j_sald (C : jC G X cc nL own fr lo) {i : Int32} {a n : Nat} {q : String × String × List Int32} (hq : ST[a]? = some q) (hn : q.2.2.length = n) (hm : ib i n F = some x_) (d : decode cc pc = .ok (.iaload, 1)) (K : F = some x_ → J G X (pc + 1) L (.int (q.2.2.getD (ix i) 0) :: st) h) : J G X pc L (.int i :: .ref (sag G a) :: st) h := by
  subst hn
  obtain ⟨hi, hm⟩ := ib_inv hm
  exact J_mk (K hm).1 fun Y y H locs ls a1 a2 a3 a4 a5 => va_ti (C Y y).x (C Y y).b ((C Y y).st.1 a q hq).2 a2 hi rfl d ((K hm).2 Y y H locs ls a1 a2 a3 a4 a5)
theorem j_slen (C : jC G X cc nL own fr lo) {a : Nat} {v : Int32} {q : String × String × List Int32} (hq : ST[a]? = some q) (hv : Int32.ofNat q.2.2.length = v) (d : decode cc pc = .ok (.arraylength, 1)) (K : J G X (pc + 1) L (.int v :: st) h) : J G X pc L (.ref (sag G a) :: st) h :=
  J_mk K.1 fun Y y H locs ls a1 a2 a3 a4 a5 => va_tlen (C Y y).x (C Y y).b ((C Y y).st.1 a q hq).2 a2 hv d (K.2 Y y H locs ls a1 a2 a3 a4 a5)
/-- switches -/
theorem j_tableOut (C : jC G X cc nL own fr lo) (tgt : Nat) {dflt lo_ hi_ : Int} {offs : Array Int} {len : Nat} {x : Int32} (d : decode cc pc = .ok (.tableswitch dflt lo_ hi_ offs, len)) (hx : x.toInt < lo_ ∨ hi_ < x.toInt) (ht : (pc : Int) + dflt = (tgt : Int)) (K : J G X tgt L st h) : J G X pc L (.int x :: st) h :=
  J_mk K.1 fun Y y H locs ls a1 a2 a3 a4 a5 => lv_tableOut (C Y y).x (C Y y).b d hx ht (K.2 Y y H locs ls a1 a2 a3 a4 a5)
theorem j_tableIn (C : jC G X cc nL own fr lo) (tgt : Nat) {dflt lo_ hi_ : Int} {offs : Array Int} {len : Nat} {x : Int32} {off : Int} (d : decode cc pc = .ok (.tableswitch dflt lo_ hi_ offs, len)) (h1 : ¬ x.toInt < lo_) (h2 : ¬ hi_ < x.toInt) (ho : offs[(x.toInt - lo_).toNat]? = some off) (ht : (pc : Int) + off = (tgt : Int)) (K : J G X tgt L st h) : J G X pc L (.int x :: st) h :=
  J_mk K.1 fun Y y H locs ls a1 a2 a3 a4 a5 => lv_tableIn (C Y y).x (C Y y).b d h1 h2 ho ht (K.2 Y y H locs ls a1 a2 a3 a4 a5)
theorem j_lookup (C : jC G X cc nL own fr lo) (tgt : Nat) {dflt : Int} {ps : Array (Int × Int)} {len : Nat} {x : Int32} {off : Int} (d : decode cc pc = .ok (.lookupswitch dflt ps, len)) (hp : (ps.toList.zip (ps.toList.drop 1)).all (fun (a, next) => a.1 < next.1) = true) (ho : Op.lookupswitch.offset ps.toList dflt x.toInt = off) (ht : (pc : Int) + off = (tgt : Int)) (K : J G X tgt L st h) : J G X pc L (.int x :: st) h :=
  J_mk K.1 fun Y y H locs ls a1 a2 a3 a4 a5 => lv_lookup (C Y y).x (C Y y).b d hp ho ht (K.2 Y y H locs ls a1 a2 a3 a4 a5)
end heap
def nwF : Cond → Bool
  | .fieldLinkNest .. => true
  | .methodLinkNest .. => true
  | .castable .. => true
  | _ => false
theorem NW_k : ∀ w ∈ NW, nwF w = true := by decide +kernel
theorem NW_tab : ∀ w ∈ NW, w.onTables = true := by decide +kernel
theorem NW_moved (w : Cond) (hw : w ∈ NW) {s U : State} (hW : s.WarmedH U.vm) (h : va_Nw w s) : va_Nw w U := by
  have hk := NW_k w hw
  cases w <;> first | exact va_Nw.warmF hW h | exact va_Nw.warmM hW h | exact va_Nw.warmC hW h | (cases hk; done)
/-- a method's end, its start, its contract -/
def qc (G : jG) (o : Option Value) (h' : Hp) : Array Value → State → Outcome → State → Prop := fun _ st oc t => (oc = .returned o ∧ hp G h' t.heap) ∧ va_F (Ab G) st t
def px (G : jG) (h : Hp) (U : State) : Prop := U.heap.size = G.1 + nid h ∧ hp G h U.heap ∧ kn G U ∧ stc G U U.heap ∧ stk G U
def mt (G : jG) (l : Launch) (y : MethodName) (bytes : ByteArray) (nL : Nat) (ret : Option FieldType) (fr lo : Nat) (av : List Value) (h : Hp) (o : Option Value) (h' : Hp) : Prop :=
  (hN h ≤ hN h' ∧ hS h ≤ hS h') ∧ Met l y (Cond.code y bytes nL ret :: lw_g) { frames := fr, cells := hN h' - hN h, slots := hS h' - hS h, locals := lo } (va_Pc av (px G h)) (qc G o h') (hN h' - hN h) (hS h' - hS h) (Ab G)
def jO (G : jG) (X : jX) (ret : Option FieldType) (o : Option Value) (h' : Hp) : Prop := X.1.1 = hN h' ∧ X.1.2 = hS h' ∧ ∀ (Y : jY), X.2 = some Y → xkb Y = 0 ∧ xsb Y = 0 ∧ xQ Y = MQ (xb Y) (qc G o h') (xa Y) (xs Y) (hN h' - xn0 Y) (hS h' - xs0 Y) (Ab G) ∧ (xM Y).sig.returnType = ret ∧ (xM Y).locks = false
theorem kn_moved {G : jG} {s U : State} (hW : s.WarmedH U.vm) (h : kn G s) : kn G U := ⟨va_K.moved hW.alike h.1, fun w hw => NW_moved w hw hW (h.2.1 w hw), va_AO.moved hW.alike h.2.2.1, va_AO.moved hW.alike h.2.2.2⟩
theorem kn_same {G : jG} {s U : State} (hv : U.vm = s.vm) (h : kn G s) : kn G U := by
  have ha : s.vm.Alike U.vm := by rw [hv]; exact Vm.Alike.refl s.vm
  exact ⟨va_K.moved ha h.1, fun w hw => va_Nw.same (NW_tab w hw) hv.symm (h.2.1 w hw), va_AO.moved ha h.2.2.1, va_AO.moved ha h.2.2.2⟩
theorem stx_kept {G : jG} {H H1 : Heap} (h : stx G H) (hq : ∀ a : Nat, a < H.size → ¬ Ab G a → H1[a]? = H[a]?) : stx G H1 := by
  obtain ⟨cell, h1, h2, h3, h4, h5, h6⟩ := h
  exact ⟨cell, by rw [hq _ (Array.getElem?_eq_some_iff.mp h1).1 h6]; exact h1, h2, h3, h4, h5, h6⟩
theorem stc_moved {G : jG} {s U : State} {H : Heap} (hvm : s.vm.Alike U.vm) (h : stc G s H) : stc G U H := ⟨fun i q hq => ⟨va_Z.moved hvm (h.1 i q hq).1, va_T.moved hvm (h.1 i q hq).2⟩, vk_S.moved hvm h.2.1, va_Z.moved hvm h.2.2.1, va_Zq.moved hvm h.2.2.2.1, h.2.2.2.2⟩
theorem stc_kept {G : jG} {s : State} {H H1 : Heap} (h : stc G s H) (hq : ∀ a : Nat, a < H.size → ¬ Ab G a → H1[a]? = H[a]?) : stc G s H1 := ⟨fun i q hi => ⟨(h.1 i q hi).1.kept hq, (h.1 i q hi).2.kept hq⟩, vk_S.kept h.2.1 hq, h.2.2.1.kept hq, h.2.2.2.1.kept hq, stx_kept h.2.2.2.2 hq⟩
theorem stk_moved {G : jG} {s U : State} (hW : s.WarmedH U.vm) (h : stk G s) : stk G U := fun i q hq => vk_R.warm hW (h i q hq)
theorem stk_same {G : jG} {s U : State} (hv : U.vm = s.vm) (h : stk G s) : stk G U := fun i q hq => vk_R.same hv (h i q hq)
theorem px_blind {G : jG} {h : Hp} {av : List Value} : FrameBlind (va_Pc av (px G h)) := fun a U g mk q => ⟨q.1, q.2.1, q.2.2.1, kn_same (s := U) (U := U.calling g mk a) rfl q.2.2.2.1, stc_moved (s := U) (U := U.calling g mk a) (Vm.Alike.refl U.vm) q.2.2.2.2.1, stk_same (s := U) (U := U.calling g mk a) rfl q.2.2.2.2.2⟩
theorem mt_of {G : jG} {l : Launch} {y : MethodName} {bytes : ByteArray} {nL : Nat} {ret : Option FieldType} {fr lo : Nat} {av : List Value} {h : Hp} {o : Option Value} {h' : Hp} (hy : plainName y.cls = true) (hlen : (lg_sl av).length ≤ nL) (L0 : List (Nat × Value)) (hL : lv_args 0 av = L0)
    (body : ∀ X : jX, (∀ Y, X.2 = some Y → (xM Y).name = y.name) → jC G X bytes nL y.cls fr lo → jO G X ret o h' → J G X 0 L0 [] h) : mt G l y bytes nL ret fr lo av h o h' := by
  refine ⟨(body ((hN h', hS h'), none) (fun Y e => by cases e) (fun Y e => by cases e) ⟨rfl, rfl, fun Y e => by cases e⟩).1, ?_⟩
  refine Met.ofW (cc := bytes) (maxL := nL) (ret := ret) hy rfl ?_
  intro p e s m args below meth c s₁ B hml hv
  obtain ⟨rfl, hsz, hP, hK, hst, hsk⟩ := hv
  have hts := atoms_spec (ws := Cond.code y bytes nL ret :: lw_g) B.pre
  have hown : s.vm.findClass y.cls = some m.cls := findClass_of_methodNamed B.named
  have hl := lv_entry av (n := nL) hlen
  rw [lg_entry_eq]
  generalize (lg_sl av ++ List.replicate (nL - (lg_sl av).length) Slot.unset).toArray = ls at hl ⊢
  rw [hL] at hl
  have K := body ((hN h', hS h'), some (p, l, e, { frames := fr, cells := hN h' - hN h, slots := hS h' - hS h, locals := lo }, s, m, av.toArray, below, meth, c, MQ below (qc G o h') av.toArray s (hN h' - hN h) (hS h' - hS h) (Ab G), hN h, hS h, 0, 0, nL)) (fun Y e => by cases e; exact (name_of_methodNamed B.named B.method).1)
    (fun Y e => by
      cases e
      exact ⟨B.exec, B.bytes, hml, rfl, hown, fun w hw => hts w (List.mem_cons_of_mem _ hw), hK, hst, hsk, by show G.1 ≤ s.heap.size; rw [hsz]; exact Nat.le_add_right _ _, by show s.heap.size + 0 = G.1 + NS + hN h; rw [hsz]; unfold nid; omega, by show _ = 0 + _; rw [Nat.zero_add], by show _ = 0 + _; rw [Nat.zero_add], rfl, rfl⟩)
    ⟨rfl, rfl, fun Y e => by cases e; exact ⟨rfl, rfl, rfl, B.returns, B.notSynchronized⟩⟩
  have := K.2 _ rfl s.heap [] ls hP va_S.rf hl (Nat.le_refl _) (Nat.le_refl _)
  simp only [Nat.zero_add, Nat.sub_self] at this
  exact this
section ends
variable {G : jG} {X : jX} {cc : ByteArray} {nL : Nat} {own : String} {fr lo : Nat} {pc : Nat} {L L' : List (Nat × Value)} {st : List Value} {h : Hp} {α : Type} {F : Option α} {x_ : α}
theorem j_iret (C : jC G X cc nL own fr lo) {v : Int32} (O : jO G X (some .int) (some (.int v)) h) (d : decode cc pc = .ok (.ireturn, 1)) : J G X pc L [.int v] h := by
  obtain ⟨o1, o2, O⟩ := O
  refine J_mk ⟨by rw [o1]; exact Nat.le_refl _, by rw [o2]; exact Nat.le_refl _⟩ fun Y y H locs ls a1 a2 a3 a4 a5 => ?_
  obtain ⟨o3, o4, o5, o6, o7⟩ := O Y y
  rw [o5, o3, o4, Nat.zero_add, Nat.zero_add]
  exact W.iret (C Y y).x (C Y y).b o6 (fun t ht hW => ⟨⟨rfl, by rw [ht]; exact a1⟩, a2.F ht⟩) a2.2.2 d o7
theorem j_zret (C : jC G X cc nL own fr lo) {v : Int32} (O : jO G X (some .boolean) (some (.int v)) h) (hb : v = 0 ∨ v = 1) (d : decode cc pc = .ok (.ireturn, 1)) : J G X pc L [.int v] h := by
  obtain ⟨o1, o2, O⟩ := O
  refine J_mk ⟨by rw [o1]; exact Nat.le_refl _, by rw [o2]; exact Nat.le_refl _⟩ fun Y y H locs ls a1 a2 a3 a4 a5 => ?_
  obtain ⟨o3, o4, o5, o6, o7⟩ := O Y y
  rw [o5, o3, o4, Nat.zero_add, Nat.zero_add]
  exact W.zret (C Y y).x (C Y y).b o6 (by rcases hb with rfl | rfl <;> decide) (fun t ht hW => ⟨⟨rfl, by rw [ht]; exact a1⟩, a2.F ht⟩) a2.2.2 d o7
theorem j_lret (C : jC G X cc nL own fr lo) {v : Int64} (O : jO G X (some .long) (some (.long v)) h) (d : decode cc pc = .ok (.lreturn, 1)) : J G X pc L [.long v] h := by
  obtain ⟨o1, o2, O⟩ := O
  refine J_mk ⟨by rw [o1]; exact Nat.le_refl _, by rw [o2]; exact Nat.le_refl _⟩ fun Y y H locs ls a1 a2 a3 a4 a5 => ?_
  obtain ⟨o3, o4, o5, o6, o7⟩ := O Y y
  rw [o5, o3, o4, Nat.zero_add, Nat.zero_add]
  exact W.lret (C Y y).x (C Y y).b o6 (fun t ht hW => ⟨⟨rfl, by rw [ht]; exact a1⟩, a2.F ht⟩) a2.2.2 d o7
theorem j_aret (C : jC G X cc nL own fr lo) {v : Value} {rt : FieldType} (O : jO G X (some rt) (some v) h) (hrt : (∃ n, rt = .object n) ∨ ∃ t, rt = .array t) (hv : v = .null ∨ ∃ a, v = .ref a) (d : decode cc pc = .ok (.areturn, 1)) : J G X pc L [v] h := by
  obtain ⟨o1, o2, O⟩ := O
  refine J_mk ⟨by rw [o1]; exact Nat.le_refl _, by rw [o2]; exact Nat.le_refl _⟩ fun Y y H locs ls a1 a2 a3 a4 a5 => ?_
  obtain ⟨o3, o4, o5, o6, o7⟩ := O Y y
  rw [o5, o3, o4, Nat.zero_add, Nat.zero_add]
  exact W.aret (C Y y).x (C Y y).b o6 hrt hv (fun t ht hW => ⟨⟨rfl, by rw [ht]; exact a1⟩, a2.F ht⟩) a2.2.2 d o7
theorem j_vret (C : jC G X cc nL own fr lo) (O : jO G X none none h) (d : decode cc pc = .ok (.return_, 1)) : J G X pc L [] h := by
  obtain ⟨o1, o2, O⟩ := O
  refine J_mk ⟨by rw [o1]; exact Nat.le_refl _, by rw [o2]; exact Nat.le_refl _⟩ fun Y y H locs ls a1 a2 a3 a4 a5 => ?_
  obtain ⟨o3, o4, o5, o6, o7⟩ := O Y y
  rw [o5, o3, o4, Nat.zero_add, Nat.zero_add]
  exact W.vret (C Y y).x (C Y y).b o6 (fun t ht hW => ⟨⟨rfl, by rw [ht]; exact a1⟩, a2.F ht⟩) a2.2.2 d o7
theorem rv_or (o : Option Nat) : rv G o = .null ∨ ∃ a, rv G o = .ref a := by
  cases o with
  | none => exact Or.inl rfl
  | some r => exact Or.inr ⟨_, rfl⟩
/-- behind a call -/
theorem j_back {h' : Hp} {o : Option Value} {rest st' : List Value} {Y : jY} (y : X.2 = some Y) {H : Heap} {locs : List Loc} {ls : Array Slot} {a : Array Value} (a2 : va_S (Ab G) (xs Y).heap H locs) (a3 : lv_has ls (xnL Y) L) (a4 : xn0 Y ≤ hN h) (a5 : xs0 Y ≤ hS h) (hmono : hN h ≤ hN h' ∧ hS h ≤ hS h') (hs : o.toList ++ rest = st')
    (hr : va_Run (xP Y) (xl Y) (xe Y) (xR Y) (xs Y) (xm Y) (xa Y) (xb Y) (xM Y) (xc Y) H locs (xkb Y + (hN h - xn0 Y)) (xsb Y + (hS h - xs0 Y)) (hN h' - hN h) (hS h' - hS h) (F0 (xm Y) pc ls st) rest (qc G o h' a) (Ab G))
    (K : J G X (pc + 3) L st' h') : W (xP Y) (xl Y) (xe Y) (xR Y) (xs Y) (xm Y) (xa Y) (xb Y) (xM Y) (xc Y) H locs (xkb Y + (hN h - xn0 Y)) (xsb Y + (hS h - xs0 Y)) (xQ Y) (F0 (xm Y) pc ls st) := by
  intro T hT Z
  obtain ⟨v, st₀, t, T', L1, h0, Z', hL, e1, e2, ⟨⟨hv, hP⟩, hz, hk⟩, go⟩ := hr T hT Z
  cases hv
  rw [h0] at hz hk
  obtain ⟨m1, m2⟩ := hmono
  have hW := K.2 Y y T'.heap (locs ++ L1) ls (by rw [e1]; exact hP)
    ⟨Nat.le_trans a2.1 (by rw [e1]; exact hz), fun q h1 h2 => by rw [e1, hk q (Nat.lt_of_lt_of_le h1 a2.1) h2]; exact a2.2.1 q h1 h2, fun q hq => by
      rcases List.mem_append.mp hq with g | g
      · exact a2.2.2 q g
      · exact hL q g⟩ a3 (by omega) (by omega)
  rw [show xkb Y + (hN h - xn0 Y) + (hN h' - hN h) = xkb Y + (hN h' - xn0 Y) by omega, show xsb Y + (hS h - xs0 Y) + (hS h' - hS h) = xsb Y + (hS h' - xs0 Y) by omega] at Z'
  obtain ⟨t2, b1, b2⟩ := hW T' rfl Z'
  rw [← hs] at b1
  exact ⟨t2, go t2 b1, b2⟩
theorem j_start {nF sF : Nat} {Y : jY} (C : jD G Y nF sF cc nL own fr lo) {H : Heap} {locs : List Loc} (a1 : hp G h H) (a2 : va_S (Ab G) (xs Y).heap H locs) (hz : H.size = G.1 + nid h) : ∀ U : State, U.heap = H → (xs Y).WarmedH U.vm → px G h U := fun U hU hW =>
  ⟨by rw [hU]; exact hz, by rw [hU]; exact a1, kn_moved hW C.kn, by rw [hU]; exact stc_moved hW.alike (stc_kept C.st a2.2.1), stk_moved hW C.sk⟩
def cV (own : String) (index ci : Nat) (Cn : String) (y : MethodName) (bytes : ByteArray) (nL : Nat) (ret : Option FieldType) (n : Nat) : Prop :=
  Cond.methodLink own index y ∈ lw_g ∧ Cond.instanceMethod y ∈ lw_g ∧ Cond.selects Cn y y ∈ lw_g ∧ Cond.initialized Cn ∈ lw_g ∧ Cond.code y bytes nL ret ∈ lw_g ∧ (y.cls = Cn ∧ y.cls ≠ "java/lang/invoke/MethodHandle" ∧ y.cls ≠ "java/lang/invoke/VarHandle" ∧ (parseMethodDescriptor y.desc).map (fun d => d.parameters.length) = some n) ∧ ∃ T N, cls[ci]? = some (Cn, T, N)
def cS (own : String) (index : Nat) (y : MethodName) (bytes : ByteArray) (nL : Nat) (ret : Option FieldType) (n : Nat) : Prop :=
  Cond.methodLink own index y ∈ lw_g ∧ Cond.static y ∈ lw_g ∧ Cond.initialized y.cls ∈ lw_g ∧ Cond.code y bytes nL ret ∈ lw_g ∧ (y.cls ≠ "java/lang/invoke/MethodHandle" ∧ y.cls ≠ "java/lang/invoke/VarHandle" ∧ (parseMethodDescriptor y.desc).map (fun d => d.parameters.length) = some n)
def cN (own : String) (index : Nat) (host : String) (y : MethodName) (bytes : ByteArray) (nL : Nat) (ret : Option FieldType) (n : Nat) : Prop :=
  Cond.methodLinkNest own index y host ∈ NW ∧ Cond.static y ∈ lw_g ∧ Cond.initialized y.cls ∈ lw_g ∧ Cond.code y bytes nL ret ∈ lw_g ∧ (y.cls ≠ "java/lang/invoke/MethodHandle" ∧ y.cls ≠ "java/lang/invoke/VarHandle" ∧ (parseMethodDescriptor y.desc).map (fun d => d.parameters.length) = some n)
theorem g_of {w : Cond} {ws : List Cond} (hw : w ∈ lw_g) (h : GoodIn lw_g ws) : GoodIn lw_g (w :: ws) := fun v hv => by
  rcases List.mem_cons.mp hv with rfl | hv
  · exact ⟨hw, good_of_word (gw_good hw)⟩
  · exact h v hv
theorem g_self : GoodIn lw_g lw_g := fun w hw => ⟨hw, good_of_word (gw_good hw)⟩
theorem j_room {Y : jY} {nF sF : Nat} (C : jD G Y nF sF cc nL own fr lo) {h' : Hp} (a4 : xn0 Y ≤ hN h) (a5 : xs0 Y ≤ hS h) (hm : hN h ≤ hN h' ∧ hS h ≤ hS h') (hf : hN h' ≤ nF ∧ hS h' ≤ sF) : xkb Y + (hN h - xn0 Y) + (hN h' - hN h) ≤ (xR Y).cells ∧ xsb Y + (hS h - xs0 Y) + (hS h' - hS h) ≤ (xR Y).slots := by
  rw [C.rc, C.rs]
  omega
/-- a call of an own instance method -/
theorem j_cV (C : jC G X cc nL own fr lo) {β : Type} {e : Option β} {F : β → Option α} {index ci j q n nL' fr' lo' : Nat} {Cn : String} {y' : MethodName} {bytes : ByteArray} {ret : Option FieldType} (c : cV own index ci Cn y' bytes nL' ret n) (As rest : List Value) (o : β → Option Value) (h' : β → Hp) (st' : β → List Value) (hj : nd h j (100 + ci) q) (hm : e.bind F = some x_) (hM : ∀ l u, e = some u → mt G l y' bytes nL' ret fr' lo' (.ref (G.1 + j) :: As) h (o u) (h' u)) (hst : st = As.reverse ++ .ref (G.1 + j) :: rest) (hw : (rest.map fun v => v.category).sum ≤ 8) (hn : As.length = n) (hfr : fr' + 1 ≤ fr) (hlo : 8 + (nL' + 11) + lo' ≤ lo) (hs : ∀ u, (o u).toList ++ rest = st' u) (d : decode cc pc = .ok (.invokevirtual index, 3)) (K : ∀ u, F u = some x_ → J G X (pc + 3) L (st' u) (h' u)) : J G X pc L st h := by
  obtain ⟨u, hu, hm⟩ := bind_inv hm
  have K := K u hm
  refine J_mk ⟨Nat.le_trans (hM launch0 u hu).1.1 K.1.1, Nat.le_trans (hM launch0 u hu).1.2 K.1.2⟩ fun Y y H locs ls a1 a2 a3 a4 a5 => ?_
  obtain ⟨c1, c2, c3, c4, c5, c6, T, N, c7⟩ := c
  obtain ⟨hmono, hMet⟩ := hM (xl Y) u hu
  refine W.sz (fun hz => ?_)
  refine j_back y a2 a3 a4 a5 hmono (hs u) (va_runV (C := Cn) (As := As) (rest := rest) ⟨(C Y y).x, (C Y y).b, (C Y y).ml, (C Y y).ow, (C Y y).ts⟩ hMet (cwV n (C Y y).ts (g_of c1 (g_of c2 (g_of c3 (g_of c4 (g_of c5 g_self))))) rfl rfl rfl c6 ⟨by rw [(C Y y).fr_]; exact hfr, by rw [(C Y y).lo_]; exact hlo⟩) ⟨px_blind, va_recv (C Y y).kn.1 a1 c7 (a1.at hj (ce_o hj.1)), fun U hU hW => ⟨rfl, j_start (C Y y) a1 a2 (j_size (C Y y) a1 a2 a4 hz) U hU hW⟩⟩ rfl hn (by rw [a3.1]; exact (C Y y).nl) hst (lv_room hw) d (j_room (C Y y) a4 a5 hmono K.1)) K
theorem j_cS (C : jC G X cc nL own fr lo) {β : Type} {e : Option β} {F : β → Option α} {index n nL' fr' lo' : Nat} {y' : MethodName} {bytes : ByteArray} {ret : Option FieldType} (c : cS own index y' bytes nL' ret n) (As rest : List Value) (o : β → Option Value) (h' : β → Hp) (st' : β → List Value) (hm : e.bind F = some x_) (hM : ∀ l u, e = some u → mt G l y' bytes nL' ret fr' lo' As h (o u) (h' u)) (hst : st = As.reverse ++ rest) (hw : (rest.map fun v => v.category).sum ≤ 8) (hn : As.length = n) (hfr : fr' + 1 ≤ fr) (hlo : 8 + (nL' + 11) + lo' ≤ lo) (hs : ∀ u, (o u).toList ++ rest = st' u) (d : decode cc pc = .ok (.invokestatic index, 3)) (K : ∀ u, F u = some x_ → J G X (pc + 3) L (st' u) (h' u)) : J G X pc L st h := by
  obtain ⟨u, hu, hm⟩ := bind_inv hm
  have K := K u hm
  refine J_mk ⟨Nat.le_trans (hM launch0 u hu).1.1 K.1.1, Nat.le_trans (hM launch0 u hu).1.2 K.1.2⟩ fun Y y H locs ls a1 a2 a3 a4 a5 => ?_
  obtain ⟨c1, c2, c3, c4, c5⟩ := c
  obtain ⟨hmono, hMet⟩ := hM (xl Y) u hu
  refine W.sz (fun hz => ?_)
  refine j_back y a2 a3 a4 a5 hmono (hs u) (va_runS (As := As) (rest := rest) ⟨(C Y y).x, (C Y y).b, (C Y y).ml, (C Y y).ow, (C Y y).ts⟩ hMet (va_cwS n (C Y y).ts (g_of c1 (g_of c2 (g_of c3 (g_of c4 g_self)))) rfl rfl rfl c5 ⟨by rw [(C Y y).fr_]; exact hfr, by rw [(C Y y).lo_]; exact hlo⟩) ⟨px_blind, fun U hU hW => ⟨rfl, j_start (C Y y) a1 a2 (j_size (C Y y) a1 a2 a4 hz) U hU hW⟩⟩ rfl hn (by rw [a3.1]; exact (C Y y).nl) hst (lv_room hw) d (j_room (C Y y) a4 a5 hmono K.1)) K
theorem j_cN (C : jC G X cc nL own fr lo) {β : Type} {e : Option β} {F : β → Option α} {index n nL' fr' lo' : Nat} {host : String} {y' : MethodName} {bytes : ByteArray} {ret : Option FieldType} (c : cN own index host y' bytes nL' ret n) (As rest : List Value) (o : β → Option Value) (h' : β → Hp) (st' : β → List Value) (hm : e.bind F = some x_) (hM : ∀ l u, e = some u → mt G l y' bytes nL' ret fr' lo' As h (o u) (h' u)) (hst : st = As.reverse ++ rest) (hw : (rest.map fun v => v.category).sum ≤ 8) (hn : As.length = n) (hfr : fr' + 1 ≤ fr) (hlo : 8 + (nL' + 11) + lo' ≤ lo) (hs : ∀ u, (o u).toList ++ rest = st' u) (d : decode cc pc = .ok (.invokestatic index, 3)) (K : ∀ u, F u = some x_ → J G X (pc + 3) L (st' u) (h' u)) : J G X pc L st h := by
  obtain ⟨u, hu, hm⟩ := bind_inv hm
  have K := K u hm
  refine J_mk ⟨Nat.le_trans (hM launch0 u hu).1.1 K.1.1, Nat.le_trans (hM launch0 u hu).1.2 K.1.2⟩ fun Y y H locs ls a1 a2 a3 a4 a5 => ?_
  obtain ⟨c1, c2, c3, c4, c5⟩ := c
  obtain ⟨hmono, hMet⟩ := hM (xl Y) u hu
  refine W.sz (fun hz => ?_)
  refine j_back y a2 a3 a4 a5 hmono (hs u) (va_runSN (As := As) (rest := rest) ⟨(C Y y).x, (C Y y).b, (C Y y).ml, (C Y y).ow, (C Y y).ts⟩ hMet ⟨va_cnB n (C Y y).ts (g_of c4 g_self) rfl rfl rfl ((C Y y).kn.2.1 _ c1) ((C Y y).ts _ c3) c5 ⟨by rw [(C Y y).fr_]; exact hfr, by rw [(C Y y).lo_]; exact hlo⟩, (C Y y).ts _ c2, trivial⟩ ⟨px_blind, fun U hU hW => ⟨rfl, j_start (C Y y) a1 a2 (j_size (C Y y) a1 a2 a4 hz) U hU hW⟩⟩ rfl hn (by rw [a3.1]; exact (C Y y).nl) hst (lv_room hw) d (j_room (C Y y) a4 a5 hmono K.1)) K
end ends
section more
variable {G : jG} {X : jX} {cc : ByteArray} {nL : Nat} {own : String} {fr lo : Nat} {pc : Nat} {L L' : List (Nat × Value)} {st : List Value} {h : Hp} {α : Type} {F : Option α} {x_ : α}
theorem hp_push {H H1 : Heap} {t n : Nat} (a1 : hp G h H) (o1 : ∀ q, q < G.1 + nid h → H1[q]? = H[q]?) (e : va_at (Dg G) cls (G.1 + nid h, ce (cAg G) G.1 (al h t n) (nid h)) H1) : hp G (al h t n) H1 := by
  intro k q hk
  obtain ⟨hlt, rfl⟩ := cs_at hk
  by_cases hk2 : k < nid h
  · rw [ce_al_lt hk2]
    exact (a1 k _ (cs_get hk2)).kept (o1 _ (by show G.1 + k < _; omega))
  · have : k = nid h := by
      have : nid (al h t n) = nid h + 1 := rfl
      omega
    subst this
    exact e
theorem kn_arr {s : State} (hk : kn G s) {p : Nat} {cA : ClassId} {ty : FieldType} (ht : (tysg G)[p]? = some (cA, ty)) (hty : ∀ C, ty ≠ .object C) {cB : ClassId} (hB : s.vm.findClass ("[" ++ ty.toString) = some cB) : cB = cA := by
  have h2 := (hk.1.2 p _ ht).2
  cases ty with
  | object C => exact absurd rfl (hty C)
  | _ => exact Option.some.inj (hB.symm.trans h2)
theorem j_newaI (C : jC G X cc nL own fr lo) {v : Int32} (hm : nl v F = some x_) (w : Cond.arrayClass .int ∈ lw_g) (d : decode cc pc = .ok (.newarray .int, 2)) (K : F = some x_ → J G X (pc + 2) L (.ref (G.1 + nid h) :: st) (al h 0 (ix v))) : J G X pc L (.int v :: st) h := by
  obtain ⟨⟨v1, v2⟩, hm⟩ := nl_inv hm
  have K := K hm
  have e1 : hN (al h 0 (ix v)) = hN h + 1 := rfl
  have e2 : hS (al h 0 (ix v)) = hS h + ix v := rfl
  have k1 := K.1
  rw [e1, e2] at k1
  refine J_mk ⟨by omega, by omega⟩ fun Y y H locs ls a1 a2 a3 a4 a5 => W.sz fun hz => ?_
  have hH := j_size (C Y y) a1 a2 a4 hz
  refine va_newaK (atype := .int) (C Y y).x (C Y y).b ((C Y y).ts _ w) rfl d rfl v1 rfl (by show _ * 4 ≤ _; omega) (by rw [(C Y y).rc]; omega) (by rw [(C Y y).rs]; show _ + ix v ≤ _; omega) hH (fun H1 cA g1 z1 o1 hAr hNm => ?_)
  have hc : cA = cAg G 0 := kn_arr (C Y y).kn (p := 0) rfl (fun C => by intro z; cases z) hNm
  subst hc
  have hW := K.2 Y y H1 locs ls (hp_push a1 o1 (by
    rw [ce_i (t := 0) kd_al (by omega) (by omega)]
    show H1[G.1 + nid h]? = some (vp_cell _ _)
    rw [g1, vp_cell_i]
    have : hI (al h 0 (ix v)) (nid h) = fun _ => 0 := if_pos rfl
    rw [this]
    rfl)) ⟨Nat.le_trans a2.1 (by omega), fun q q1 q2 => (o1 q (by rw [← hH]; exact Nat.lt_of_lt_of_le q1 a2.1)).trans (a2.2.1 q q1 q2), a2.2.2⟩ a3 (by omega) (by omega)
  rw [e1, e2, show xkb Y + (hN h + 1 - xn0 Y) = xkb Y + (hN h - xn0 Y) + 1 by omega, show xsb Y + (hS h + ix v - xs0 Y) = xsb Y + (hS h - xs0 Y) + ix v by omega] at hW
  exact hW
/-- a new object of a class all of whose fields are references -/
def fO (own : String) (index ci N : Nat) : Prop := ∃ (Cn : String) (T : u_T) (tyf : Nat → FieldType), cls[ci]? = some (Cn, T, N) ∧ (∀ w ∈ u_ws Cn T N, w ∈ lw_g) ∧ (∀ k, k < N → parseFieldDescriptor (T k).2.2.1 = some (tyf k)) ∧ Cond.classLink own index Cn ∈ lw_g ∧ Cond.instantiable Cn N ∈ lw_g ∧ Cond.initialized Cn ∈ lw_g ∧ FT.getD ci [] = List.replicate N 2 ∧ ∀ k, k < N → defaultValue (tyf k) = .null
theorem RS_len : RS.length = NS := rfl
theorem rs_out {j : Nat} (hj : NS ≤ j) (k : Nat) : rs j k = none := by
  have e : RS.getD j [] = [] := by rw [List.getD_eq_getElem?_getD, List.getElem?_eq_none (by rw [RS_len]; exact hj)]; rfl
  rw [rs, e]
  rfl
theorem obF_null {b : Nat} {h : Hp} {j : Nat} (hr : ∀ k, rf h j k = none) : ∀ (N k : Nat), obF b h j k (List.replicate N 2) = List.replicate N .null
  | 0, _ => rfl
  | N + 1, k => by
    rw [List.replicate_succ, List.replicate_succ, obF, obF_null hr N (k + 1)]
    have : fv b h j k 2 = .null := by
      show va_rf ((rf h j k).map (b + ·)) = .null
      rw [hr k]
      rfl
    rw [this]
theorem j_new (C : jC G X cc nL own fr lo) {index ci N : Nat} (f : fO own index ci N) (d : decode cc pc = .ok (.new index, 3)) (K : J G X (pc + 3) L (.ref (G.1 + nid h) :: st) (al h (100 + ci) N)) : J G X pc L st h := by
  obtain ⟨Cn, T, tyf, f1, f2, f3, f4, f5, f6, f7, f8⟩ := f
  have e1 : hN (al h (100 + ci) N) = hN h + 1 := rfl
  have e2 : hS (al h (100 + ci) N) = hS h + N := rfl
  have k1 := K.1
  rw [e1, e2] at k1
  refine J_mk ⟨by omega, by omega⟩ fun Y y H locs ls a1 a2 a3 a4 a5 => W.sz fun hz => ?_
  have hH := j_size (C Y y) a1 a2 a4 hz
  have hKn := (C Y y).kn.1.1 ci _ f1
  refine W.newcK (C Y y).x (C Y y).b (C Y y).ow ((C Y y).ts _ f4) ((C Y y).ts _ f5) ((C Y y).ts _ f6) rfl d (by rw [(C Y y).rc]; omega) (by rw [(C Y y).rs]; omega) hKn.2.1 hH (fun H1 kC hkC g1 z1 o1 => ?_)
  have hrf : ∀ k, rf (al h (100 + ci) N) (nid h) k = none := fun k => by
    unfold rf
    rw [rs_out (by unfold nid; omega)]
    show (if nid h = nid h then (fun _ => none) else hR h (nid h)) k = none
    rw [if_pos rfl]
  have hW := K.2 Y y H1 locs ls (hp_push a1 o1 (by
    rw [ce_o kd_al, f7, obF_null hrf]
    exact ⟨_, f1, (u_born tyf (C Y y).ts f2 hKn hkC g1 f3).to (fun j hj => by rw [f8 j hj]; simp [vp_V, hj])⟩)) ⟨Nat.le_trans a2.1 (by omega), fun q q1 q2 => (o1 q (by rw [← hH]; exact Nat.lt_of_lt_of_le q1 a2.1)).trans (a2.2.1 q q1 q2), a2.2.2⟩ a3 (by omega) (by omega)
  rw [e1, e2, show xkb Y + (hN h + 1 - xn0 Y) = xkb Y + (hN h - xn0 Y) + 1 by omega, show xsb Y + (hS h + N - xs0 Y) = xsb Y + (hS h - xs0 Y) + N by omega] at hW
  exact hW
/-- Object's own constructor -/
theorem j_obj (C : jC G X cc nL own fr lo) {index a : Nat} (w1 : Cond.methodLink own index Lib.objectInit ∈ lw_g) (w2 : Cond.instanceMethod Lib.objectInit ∈ lw_g) (w3 : Cond.code Lib.objectInit ⟨#[0xb1]⟩ 1 none ∈ lw_g) (hf : 1 ≤ fr) (hl : (st.map fun v => v.category).sum + 12 ≤ lo) (d : decode cc pc = .ok (.invokespecial index, 3)) (K : J G X (pc + 3) L st h) : J G X pc L (.ref a :: st) h :=
  J_mk K.1 fun Y y H locs ls a1 a2 a3 a4 a5 => W.objInit (C Y y).x (C Y y).b (C Y y).ow ((C Y y).ts _ w1) ((C Y y).ts _ w2) ((C Y y).ts _ w3) rfl (by show ls.size = _; rw [a3.1, (C Y y).nl, (C Y y).ml]) rfl d (by rw [(C Y y).fr_]; exact hf) (by rw [(C Y y).lo_]; show 2 * 0 + _ + 12 ≤ lo; omega) (K.2 Y y H locs ls a1 a2 a3 a4 a5)
/-- a final reference field, in its own constructor -/
theorem j_pF (C : jC G X cc nL own fr lo) (hi : ∀ Y, X.2 = some Y → (xM Y).name = "<init>") {index ci k n j : Nat} {o : Option Nat} (f : fF own index ci k 2 true) (hd : ∃ Cn T N, cls[ci]? = some (Cn, T, N) ∧ (T k).1 = own) (hj : nd h j (100 + ci) n) (hr : rs j k = none) (d : decode cc pc = .ok (.putfield index, 3)) (K : J G X (pc + 3) L st (sR h j k o)) : J G X pc L (rv G o :: .ref (G.1 + j) :: st) h := by
  have hg := fv_at (h := h) (b := G.1) (j := j) f
  obtain ⟨Cn, T, N, tyf, f1, f2, f3, f4, f5, f6, f7, f8, f9⟩ := f
  have hfit : narrow (tyf k) (rv G o) = rv G o ∧ fits (tyf k) (rv G o) = true := by
    rcases f8 with ⟨z, -⟩ | ⟨z, -⟩ | ⟨z, -⟩ | ⟨-, ht⟩
    · cases z
    · cases z
    · cases z
    · rcases ht with ⟨n, ht⟩ | ⟨q, ht⟩ <;> rw [ht] <;> cases o <;> exact ⟨rfl, rfl⟩
  have hdecl : (T k).1 = own := by
    obtain ⟨Cn', T', N', g1, g2⟩ := hd
    rw [f1] at g1
    cases g1
    exact g2
  refine J_mk K.1 fun Y y H locs ls a1 a2 a3 a4 a5 => ?_
  refine va_putF (C Y y).x (C Y y).b (C Y y).ts f2 tyf f6 f7 (C Y y).ow (C Y y).kn.1 a1 a1.D a2 j (a1.at hj (ce_o hj.1)) f1 k f3 ((C Y y).ts _ f4) (fun _ q => q) f9 (hi Y y) hdecl (f6 k f3) hfit.1 hfit.2 (by rw [List.getElem?_eq_some_iff] at hg; exact hg.1) d (fun H1 locs1 p1 p2 p3 => ?_)
  have hw : ce (cAg G) G.1 (sR h j k o) j = .inr (ci, (obF G.1 h j 0 (FT.getD ci [])).set k (rv G o)) := by
    rw [ce_o ((kd_sR j).trans hj.1), obF_set G.1 h (sR h j k o) j (FT.getD ci []) 0 k (rv G o) (fun q z t => fv_sR q (by omega) t) (fun t ht => by
      rw [f5] at ht
      cases ht
      rw [Nat.zero_add]
      show va_rf ((rf (sR h j k o) j k).map (G.1 + ·)) = rv G o
      unfold rf
      rw [hr]
      show va_rf ((hR (sR h j k o) j k).map (G.1 + ·)) = rv G o
      rw [hR_sR]
      simp [va_up, rv])]
  exact K.2 Y y H1 locs1 ls (hp_set (h := h) (h' := sR h j k o) hj.2 rfl hw (fun i hi => ce_sR_ne hi) p1) p3 a3 a4 a5
/-- a call of an own constructor -/
def cI (own : String) (index : Nat) (y : MethodName) (bytes : ByteArray) (nL : Nat) (n : Nat) : Prop :=
  Cond.methodLink own index y ∈ lw_g ∧ Cond.instanceMethod y ∈ lw_g ∧ Cond.initialized y.cls ∈ lw_g ∧ Cond.code y bytes nL none ∈ lw_g ∧ y.name = "<init>" ∧ (y.cls ≠ "java/lang/invoke/MethodHandle" ∧ y.cls ≠ "java/lang/invoke/VarHandle" ∧ (parseMethodDescriptor y.desc).map (fun d => d.parameters.length) = some n)
theorem j_cI (C : jC G X cc nL own fr lo) {β : Type} {e : Option β} {F : β → Option α} {index b n nL' fr' lo' : Nat} {y' : MethodName} {bytes : ByteArray} (c : cI own index y' bytes nL' n) (As rest : List Value) (h' : β → Hp) (hm : e.bind F = some x_) (hM : ∀ l u, e = some u → mt G l y' bytes nL' none fr' lo' (.ref b :: As) h none (h' u)) (hst : st = As.reverse ++ .ref b :: rest) (hw : (rest.map fun v => v.category).sum ≤ 8) (hn : As.length = n) (hfr : fr' + 1 ≤ fr) (hlo : 8 + (nL' + 11) + lo' ≤ lo) (d : decode cc pc = .ok (.invokespecial index, 3)) (K : ∀ u, F u = some x_ → J G X (pc + 3) L rest (h' u)) : J G X pc L st h := by
  obtain ⟨u, hu, hm⟩ := bind_inv hm
  have K := K u hm
  refine J_mk ⟨Nat.le_trans (hM launch0 u hu).1.1 K.1.1, Nat.le_trans (hM launch0 u hu).1.2 K.1.2⟩ fun Y y H locs ls a1 a2 a3 a4 a5 => ?_
  obtain ⟨c1, c2, c3, c4, c5, c6⟩ := c
  obtain ⟨hmono, hMet⟩ := hM (xl Y) u hu
  refine W.sz (fun hz => ?_)
  refine j_back (st' := rest) y a2 a3 a4 a5 hmono rfl (va_runI (As := As) (rest := rest) ⟨(C Y y).x, (C Y y).b, (C Y y).ml, (C Y y).ow, (C Y y).ts⟩ hMet (cwI n (C Y y).ts (g_of c4 g_self) rfl rfl rfl ((C Y y).ts _ c3) ((C Y y).ts _ c1) ((C Y y).ts _ c2) c5 c6 ⟨by rw [(C Y y).fr_]; exact hfr, by rw [(C Y y).lo_]; exact hlo⟩) ⟨px_blind, fun U hU hW => ⟨rfl, j_start (C Y y) a1 a2 (j_size (C Y y) a1 a2 a4 hz) U hU hW⟩⟩ rfl hn (by rw [a3.1]; exact (C Y y).nl) hst (lv_room hw) d (j_room (C Y y) a4 a5 hmono K.1)) K
/-- Math -/
theorem j_le {Y : jY} {nF sF : Nat} (C : jD G Y nF sF cc nL own fr lo) (a4 : xn0 Y ≤ hN h) (a5 : xs0 Y ≤ hS h) (hf : hN h ≤ nF ∧ hS h ≤ sF) : xkb Y + (hN h - xn0 Y) ≤ (xR Y).cells ∧ xsb Y + (hS h - xs0 Y) ≤ (xR Y).slots := by
  rw [C.rc, C.rs]
  omega
theorem j_mmax (C : jC G X cc nL own fr lo) {index : Nat} {x y : Int32} (w : Cond.methodLink own index Lib.Math.max.name ∈ lw_g) (w1 : Cond.static Lib.Math.max.name ∈ lw_g) (w2 : Cond.initialized "java/lang/Math" ∈ lw_g) (w3 : Cond.code Lib.Math.max.name Lib.Math.max.code 2 (some .int) ∈ lw_g) (hf : 1 ≤ fr) (hl : (st.map fun v => v.category).sum + 13 ≤ lo) (d : decode cc pc = .ok (.invokestatic index, 3)) (K : J G X (pc + 3) L (.int (z_max x y) :: st) h) : J G X pc L (.int y :: .int x :: st) h :=
  J_mk K.1 fun Y y_ H locs ls a1 a2 a3 a4 a5 => va_mmax (C Y y_).x (C Y y_).b (by rw [a3.1, (C Y y_).nl, (C Y y_).ml]) (C Y y_).ow ((C Y y_).ts _ w) ((C Y y_).ts _ w1) ((C Y y_).ts _ w2) ((C Y y_).ts _ w3) (by rw [(C Y y_).fr_]; exact hf) (by rw [(C Y y_).lo_]; exact hl) (j_le (C Y y_) a4 a5 K.1).1 (j_le (C Y y_) a4 a5 K.1).2 d (K.2 Y y_ H locs ls a1 a2 a3 a4 a5)
theorem j_mmin (C : jC G X cc nL own fr lo) {index : Nat} {x y : Int32} (w : Cond.methodLink own index Lib.Math.min.name ∈ lw_g) (w1 : Cond.static Lib.Math.min.name ∈ lw_g) (w2 : Cond.initialized "java/lang/Math" ∈ lw_g) (w3 : Cond.code Lib.Math.min.name Lib.Math.min.code 2 (some .int) ∈ lw_g) (hf : 1 ≤ fr) (hl : (st.map fun v => v.category).sum + 13 ≤ lo) (d : decode cc pc = .ok (.invokestatic index, 3)) (K : J G X (pc + 3) L (.int (z_min x y) :: st) h) : J G X pc L (.int y :: .int x :: st) h :=
  J_mk K.1 fun Y y_ H locs ls a1 a2 a3 a4 a5 => va_mmin (C Y y_).x (C Y y_).b (by rw [a3.1, (C Y y_).nl, (C Y y_).ml]) (C Y y_).ow ((C Y y_).ts _ w) ((C Y y_).ts _ w1) ((C Y y_).ts _ w2) ((C Y y_).ts _ w3) (by rw [(C Y y_).fr_]; exact hf) (by rw [(C Y y_).lo_]; exact hl) (j_le (C Y y_) a4 a5 K.1).1 (j_le (C Y y_) a4 a5 K.1).2 d (K.2 Y y_ H locs ls a1 a2 a3 a4 a5)
theorem j_mabs (C : jC G X cc nL own fr lo) {index : Nat} {x : Int32} (w : Cond.methodLink own index Lib.Math.abs.name ∈ lw_g) (w1 : Cond.static Lib.Math.abs.name ∈ lw_g) (w2 : Cond.initialized "java/lang/Math" ∈ lw_g) (w3 : Cond.code Lib.Math.abs.name Lib.Math.abs.code 1 (some .int) ∈ lw_g) (hf : 1 ≤ fr) (hl : (st.map fun v => v.category).sum + 13 ≤ lo) (d : decode cc pc = .ok (.invokestatic index, 3)) (K : J G X (pc + 3) L (.int (z_abs x) :: st) h) : J G X pc L (.int x :: st) h :=
  J_mk K.1 fun Y y_ H locs ls a1 a2 a3 a4 a5 => va_mabs (C Y y_).x (C Y y_).b (by rw [a3.1, (C Y y_).nl, (C Y y_).ml]) (C Y y_).ow ((C Y y_).ts _ w) ((C Y y_).ts _ w1) ((C Y y_).ts _ w2) ((C Y y_).ts _ w3) (by rw [(C Y y_).fr_]; exact hf) (by rw [(C Y y_).lo_]; exact hl) (j_le (C Y y_) a4 a5 K.1).1 (j_le (C Y y_) a4 a5 K.1).2 d (K.2 Y y_ H locs ls a1 a2 a3 a4 a5)
/-- System.arraycopy of ints -/
theorem j_copy (C : jC G X cc nL own fr lo) {index a b : Nat} {sp dp n : Int32} (w : Cond.methodLink own index arraycopyName ∈ lw_g) (w1 : Cond.native arraycopyName ∈ lw_g) (w2 : Cond.static arraycopyName ∈ lw_g) (w3 : Cond.initialized "java/lang/System" ∈ lw_g) (hf : 1 ≤ fr) (hl : (st.map fun v => v.category).sum + (nativeFrameWords "java/lang/System" "arraycopy" 5 + 11) ≤ lo) (hm : cy h a sp b dp n F = some x_) (d : decode cc pc = .ok (.invokestatic index, 3)) (K : F = some x_ → J G X (pc + 3) L st (cpI h a sp b dp n)) : J G X pc L (.int n :: .int dp :: .ref (G.1 + b) :: .int sp :: .ref (G.1 + a) :: st) h := by
  obtain ⟨⟨ha, hb, c1, c2, c3, c4, c5⟩, hm⟩ := cy_inv hm
  have K := K hm
  refine J_mk K.1 fun Y y H locs ls a1 a2 a3 a4 a5 => va_copyi (ty := .int) (C Y y).x (C Y y).b (by rw [a3.1, (C Y y).nl, (C Y y).ml]) (C Y y).ow ((C Y y).ts _ w) ((C Y y).ts _ w1) ((C Y y).ts _ w2) ((C Y y).ts _ w3) (C Y y).kn.1 a1 a1.D a2 a b 0 0 (a1.at ha (ce_i ha.1 (by omega) (by omega))) (a1.at hb (ce_i hb.1 (by omega) (by omega))) rfl rfl rfl c1 c2 c3 c4 c5 (fun i _ => rfl) (by rw [(C Y y).fr_]; exact hf) (by rw [(C Y y).lo_]; exact hl) d (fun H1 locs1 p1 p2 p3 => ?_)
  exact K.2 Y y H1 locs1 ls (hp_set (h := h) (h' := cpI h a sp b dp n) hb.2 rfl ((ce_i ((kd_cpI b).trans hb.1) (by omega) (by omega)).trans (by rw [show hI (cpI h a sp b dp n) b = _ from if_pos rfl])) (fun i hi => ce_cpI_ne hi) p1) p3 a3 a4 a5
end more
section more2
variable {G : jG} {X : jX} {cc : ByteArray} {nL : Nat} {own : String} {fr lo : Nat} {pc : Nat} {L L' : List (Nat × Value)} {st : List Value} {h : Hp} {α : Type} {F : Option α} {x_ : α}
theorem j_ldc_w (C : jC G X cc nL own fr lo) {index : Nat} {v : Int32} (w : Jvm.Cond.constant own index v ∈ lw_g) (d : decode cc pc = .ok (.ldc_w index, 3)) (K : J G X (pc + 3) L (.int v :: st) h) : J G X pc L st h := J_mk K.1 fun Y y H locs ls a1 a2 a3 a4 a5 => lv_ldcw (C Y y).x (C Y y).b (C Y y).ow ((C Y y).ts _ w) d (K.2 Y y H locs ls a1 a2 a3 a4 a5)
theorem rv_cat (o : Option Nat) : (rv G o).category = 1 := by cases o <;> rfl
theorem add_lit {x a b : Int32} (h : a = b) : x + a = x + b := by rw [h]
theorem j_aloadQ_n (C : jC G X cc nL own fr lo) (n : Nat) {k : Fin 4} {i : Nat} {o : Option Nat} (d : decode cc pc = .ok (.aload_n k, 1)) (hi : (k : Nat) = i) (hl : L[n]? = some (i, rv G o)) (K : J G X (pc + 1) L (rv G o :: st) h) : J G X pc L st h := by
  refine J_mk K.1 fun Y y H locs ls a1 a2 a3 a4 a5 => ?_
  cases o with
  | none => exact lv_aload_nN (C Y y).x (C Y y).b d hi (lv_at a3 n hl) (K.2 Y y H locs ls a1 a2 a3 a4 a5)
  | some r => exact lv_aload_n (C Y y).x (C Y y).b d hi (lv_at a3 n hl) (K.2 Y y H locs ls a1 a2 a3 a4 a5)
theorem j_aloadQ (C : jC G X cc nL own fr lo) (n : Nat) {i : Nat} {o : Option Nat} (d : decode cc pc = .ok (.aload i, 2)) (hl : L[n]? = some (i, rv G o)) (K : J G X (pc + 2) L (rv G o :: st) h) : J G X pc L st h := by
  refine J_mk K.1 fun Y y H locs ls a1 a2 a3 a4 a5 => ?_
  cases o with
  | none => exact lv_aloadN (C Y y).x (C Y y).b d (lv_at a3 n hl) (K.2 Y y H locs ls a1 a2 a3 a4 a5)
  | some r => exact lv_aload (C Y y).x (C Y y).b d (lv_at a3 n hl) (K.2 Y y H locs ls a1 a2 a3 a4 a5)
theorem j_astoreQ_n (C : jC G X cc nL own fr lo) (L' : List (Nat × Value)) {k : Fin 4} {i : Nat} {o : Option Nat} (d : decode cc pc = .ok (.astore_n k, 1)) (hi : (k : Nat) = i) (hn : i < nL) (hl : (i, rv G o) :: L.filter (fun q => !(q.1 == i) && !(q.1 + 1 == i && q.2.category == 2)) = L') (K : J G X (pc + 1) L' st h) : J G X pc L (rv G o :: st) h := by
  refine J_mk K.1 fun Y y H locs ls a1 a2 a3 a4 a5 => ?_
  cases o with
  | none => exact lv_astore_nN (C Y y).x (C Y y).b d hi a3 (by rw [(C Y y).nl]; exact hn) hl (fun ls a3 => K.2 Y y H locs ls a1 a2 a3 a4 a5)
  | some r => exact lv_astore_n (C Y y).x (C Y y).b d hi a3 (by rw [(C Y y).nl]; exact hn) hl (fun ls a3 => K.2 Y y H locs ls a1 a2 a3 a4 a5)
theorem j_astoreQ (C : jC G X cc nL own fr lo) (L' : List (Nat × Value)) {i : Nat} {o : Option Nat} (d : decode cc pc = .ok (.astore i, 2)) (hn : i < nL) (hl : (i, rv G o) :: L.filter (fun q => !(q.1 == i) && !(q.1 + 1 == i && q.2.category == 2)) = L') (K : J G X (pc + 2) L' st h) : J G X pc L (rv G o :: st) h := by
  refine J_mk K.1 fun Y y H locs ls a1 a2 a3 a4 a5 => ?_
  cases o with
  | none => exact lv_astoreN (C Y y).x (C Y y).b d a3 (by rw [(C Y y).nl]; exact hn) hl (fun ls a3 => K.2 Y y H locs ls a1 a2 a3 a4 a5)
  | some r => exact lv_astore (C Y y).x (C Y y).b d a3 (by rw [(C Y y).nl]; exact hn) hl (fun ls a3 => K.2 Y y H locs ls a1 a2 a3 a4 a5)
theorem sw_ne {x k : Int32} {n : Int} (c : ¬ x = k) (hk : k.toInt = n) : x.toInt ≠ n := lv_neT c hk
theorem j_swIn (C : jC G X cc nL own fr lo) (k : Int32) (tgt : Nat) {dflt lo_ hi_ : Int} {offs : Array Int} {len : Nat} {x : Int32} {off : Int} (d : decode cc pc = .ok (.tableswitch dflt lo_ hi_ offs, len)) (e : x = k) (h1 : ¬ k.toInt < lo_) (h2 : ¬ hi_ < k.toInt) (ho : offs[(k.toInt - lo_).toNat]? = some off) (ht : (pc : Int) + off = (tgt : Int)) (K : J G X tgt L st h) : J G X pc L (.int x :: st) h := by
  subst e
  exact j_tableIn C tgt d h1 h2 ho ht K
theorem j_lkIn (C : jC G X cc nL own fr lo) (k : Int32) (tgt : Nat) {dflt : Int} {ps : Array (Int × Int)} {len : Nat} {x : Int32} {off : Int} (d : decode cc pc = .ok (.lookupswitch dflt ps, len)) (e : x = k) (hp : (ps.toList.zip (ps.toList.drop 1)).all (fun (a, next) => a.1 < next.1) = true) (ho : Op.lookupswitch.offset ps.toList dflt k.toInt = off) (ht : (pc : Int) + off = (tgt : Int)) (K : J G X tgt L st h) : J G X pc L (.int x :: st) h := by
  subst e
  exact j_lookup C tgt d hp ho ht K
/-- the row of images -/
theorem j_img0 (C : jC G X cc nL own fr lo) {i : Int32} {r : Nat} (hi : vp_in i 2) (hr : rs 15 (ix i) = some r) (d : decode cc pc = .ok (.aaload, 1)) (K : J G X (pc + 1) L (.ref (G.1 + r) :: st) h) : J G X pc L (.int i :: .ref (G.1 + 15) :: st) h := by
  refine j_aald C (F := some ()) (x_ := ()) (n := 2) (t := 16) (j := 15) (nd_of (by decide) rfl) (by omega) (by omega) (p := 4) rfl (by unfold ib; rw [if_neg hi]) d (fun _ => ?_)
  unfold rf
  rw [hr]
  exact K
theorem j_img16 (C : jC G X cc nL own fr lo) {i : Int32} (hi : vp_in i 2) (c : ix i = 0) (d : decode cc pc = .ok (.aaload, 1)) (K : J G X (pc + 1) L (.ref (G.1 + 16) :: st) h) : J G X pc L (.int i :: .ref (G.1 + 15) :: st) h := j_img0 C hi (by rw [c]; rfl) d K
theorem j_img30 (C : jC G X cc nL own fr lo) {i : Int32} (hi : vp_in i 2) (c : ¬ ix i = 0) (d : decode cc pc = .ok (.aaload, 1)) (K : J G X (pc + 1) L (.ref (G.1 + 30) :: st) h) : J G X pc L (.int i :: .ref (G.1 + 15) :: st) h := by
  have : ix i = 1 := by
    have h2 : ix i < 2 := Nat.not_le.mp fun q => hi (Or.inr q)
    omega
  exact j_img0 C hi (by rw [this]; rfl) d K
theorem KD_law : ∀ j, j < NS → (KD.getD j (0, 0)).1 ≠ 101 := by decide +kernel
theorem rs_law {n j : Nat} (hj : nd h j (100 + 1) n) (k : Nat) : rs j k = none := by
  by_cases hl : j < NS
  · have h1 := hj.1
    rw [kd, if_pos hl] at h1
    exact absurd (by rw [h1]) (KD_law j hl)
  · exact rs_out (by omega) k
/-- a row of ints, cloned -/
def clI (h : Hp) (j : Nat) : Hp := (fun a => if a = nid h then hI h j else hI h a, (al h 0 (ln h j)).2)
theorem kd_clI {j i : Nat} : kd (clI h j) i = kd (al h 0 (ln h j)) i := rfl
theorem ce_clI_lt {cA : Nat → ClassId} {b i j : Nat} (hi : i < nid h) : ce cA b (clI h j) i = ce cA b h i :=
  ce_congr (kd_al_lt hi) (if_neg (nid_lt hi)) (if_neg (nid_lt hi)) (rf_congr (if_neg (nid_lt hi)))
theorem kn_int {s : State} (hk : kn G s) : s.vm.findClass "[I" = some (cAg G 0) := (hk.1.2 0 _ rfl).2
theorem fit_int {cA : ClassId} {n : Nat} {f : Nat → Int32} (i : Nat) (v : Value) (hv : (vp_cell cA (n, .inl f)).slots[i]? = some v) : fits .int v = true := by
  rw [vp_cell_i] at hv
  have hi : i < n := by
    have := (Array.getElem?_eq_some_iff.mp hv).1
    rwa [arrV_size] at this
  rw [arrV_read _ _ hi] at hv
  cases hv
  rfl
theorem j_clone (C : jC G X cc nL own fr lo) {index j n : Nat} (hj : nd h j 0 n) (w1 : Cond.methodLink own index ⟨"[I", "clone", "()Ljava/lang/Object;"⟩ ∈ lw_g) (w2 : Cond.sameMethod "[I" "java/lang/Object" "clone" "()Ljava/lang/Object;" ∈ lw_g) (w3 : Cond.native ⟨"java/lang/Object", "clone", "()Ljava/lang/Object;"⟩ ∈ lw_g) (w4 : Cond.instanceMethod ⟨"java/lang/Object", "clone", "()Ljava/lang/Object;"⟩ ∈ lw_g) (w5 : Cond.selects "[I" ⟨"[I", "clone", "()Ljava/lang/Object;"⟩ ⟨"java/lang/Object", "clone", "()Ljava/lang/Object;"⟩ ∈ lw_g) (w6 : Cond.castable "[I" "java/lang/Cloneable" ∈ NW) (hf : 1 ≤ fr) (hl : (st.map fun v => v.category).sum + 14 ≤ lo) (d : decode cc pc = .ok (.invokevirtual index, 3)) (K : J G X (pc + 3) L (.ref (G.1 + nid h) :: st) (clI h j)) : J G X pc L (.ref (G.1 + j) :: st) h := by
  have hn : ln h j = n := by rw [ln, hj.1]
  have e1 : hN (clI h j) = hN h + 1 := rfl
  have e2 : hS (clI h j) = hS h + n := by rw [← hn]; rfl
  have k1 := K.1
  rw [e1, e2] at k1
  refine J_mk ⟨by omega, by omega⟩ fun Y y H locs ls a1 a2 a3 a4 a5 => ?_
  refine va_clone (C Y y).x (C Y y).b (by rw [a3.1, (C Y y).nl, (C Y y).ml]) (C Y y).ow ((C Y y).ts _ w1) ((C Y y).ts _ w2) ((C Y y).ts _ w3) ((C Y y).ts _ w4) ((C Y y).ts _ w5) ((C Y y).kn.2.1 _ w6) (C Y y).kn.1 a1 a1.D a2 (fun q hq => Nat.le_trans (C Y y).bs hq) j 0 (a1.at hj (ce_i hj.1 (by omega) (by omega))) rfl (kn_int (C Y y).kn) fit_int (by rw [(C Y y).fr_]; exact hf) (by rw [(C Y y).lo_]; exact hl) (by rw [(C Y y).rc]; omega) (by rw [(C Y y).rs]; show _ + n ≤ _; omega) d (fun q H1 _ p1 d1 s1 => W.sz fun hz => ?_)
  have hsz := (C Y y).sz
  have hlast : (cs (cAg G) G.1 h ++ [(q, Sum.inl (cAg G 0, n, Sum.inl (hI h j)))])[nid h]? = some (q, Sum.inl (cAg G 0, n, Sum.inl (hI h j))) := by
    rw [List.getElem?_append_right (by rw [cs_len]; exact Nat.le_refl _), cs_len, Nat.sub_self]
    rfl
  have hlt : q < H1.size := va_at.lt (p1 _ _ hlast)
  have hge : G.1 ≤ q := d1.2 _ _ hlast
  have hq : q = G.1 + nid h := by
    by_cases hb : q < G.1 + nid h
    · exfalso
      have hx : q - G.1 < nid h := by omega
      have hfirst : (cs (cAg G) G.1 h ++ [(q, Sum.inl (cAg G 0, n, Sum.inl (hI h j)))])[q - G.1]? = some (G.1 + (q - G.1), ce (cAg G) G.1 h (q - G.1)) := by
        rw [List.getElem?_append_left (by rw [cs_len]; exact hx), cs_get hx]
      have := d1.1 _ _ _ _ hfirst hlast (by show G.1 + (q - G.1) = q; omega)
      omega
    · unfold nid at *
      omega
  subst hq
  have hW := K.2 Y y H1 locs ls (by
    rw [cs_push (h' := clI h j) e1 ((ce_i (t := 0) (n := n) (by rw [kd_clI, hn]; exact kd_al) (by omega) (by omega)).trans (by rw [show hI (clI h j) (nid h) = hI h j from if_pos rfl])) (fun i hi => ce_clI_lt hi)] at p1
    exact p1) s1 a3 (by omega) (by omega)
  rw [e1, e2, show xkb Y + (hN h + 1 - xn0 Y) = xkb Y + (hN h - xn0 Y) + 1 by omega, show xsb Y + (hS h + n - xs0 Y) = xsb Y + (hS h - xs0 Y) + n by omega] at hW
  exact hW
theorem j_castI (C : jC G X cc nL own fr lo) {index j n : Nat} (hj : nd h j 0 n) (w : Cond.classLink own index "[I" ∈ lw_g) (d : decode cc pc = .ok (.checkcast index, 3)) (K : J G X (pc + 3) L (.ref (G.1 + j) :: st) h) : J G X pc L (.ref (G.1 + j) :: st) h :=
  J_mk K.1 fun Y y H locs ls a1 a2 a3 a4 a5 => va_castA (C Y y).x (C Y y).b (C Y y).ow ((C Y y).ts _ w) a1 j (a1.at hj (ce_i hj.1 (by omega) (by omega))) (kn_int (C Y y).kn) d (K.2 Y y H locs ls a1 a2 a3 a4 a5)
theorem nd_clI {j : Nat} : nd (clI h j) (nid h) 0 (ln h j) := ⟨kd_al, Nat.lt_succ_self _⟩
end more2
