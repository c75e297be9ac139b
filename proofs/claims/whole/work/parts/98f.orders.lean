/-! ships: all orders -/
def TRn (a b : Nat) (pre : List (Nat × Nat)) (h : Hp) : Prop := ∀ i q, pre[i]? = some q → hI h a i = nI q.1 ∧ hI h b q.1 = nI q.2
def BKn (m k a b : Nat) (acc : Option (List (Nat × Nat) × Nat)) (h : Hp) : Prop := match acc with
  | none => hI h m k = -1
  | some c => hI h m k = nI c.2 ∧ TRn a b c.1 h
theorem lkOK_BK {row K : Nat → Int32} {h : Hp} : lkOK row K h ↔ BKn 69 7 72 73 (bstC row K) h := by
  unfold lkOK BKn TRn
  cases bstC row K <;> exact Iff.rfl
/-- what a search under a beginning makes of the best so far -/
def fo (row K : Nat → Int32) (n k : Nat) (pre : List (Nat × Nat)) (free w : Nat) (acc : Option (List (Nat × Nat) × Nat)) : Option (List (Nat × Nat) × Nat) := (cand row K n k ((pre.map Prod.fst).reverse) free).foldl (fun a c => btr a (pre ++ c.1, w + c.2)) acc
def fS (row K : Nat → Int32) (n k : Nat) (pre : List (Nat × Nat)) (free w s : Nat) (acc : Option (List (Nat × Nat) × Nat)) : Option (List (Nat × Nat) × Nat) := if s ∈ pre.map Prod.fst then acc else match bgA row K s (max (ix (K (103 + 3 * s))) free) with
  | none => acc
  | some b => fo row K n k (pre ++ [(s, b)]) (b + ix (K (104 + 3 * s))) (w + (b - ix (K (103 + 3 * s)))) acc
def fA (row K : Nat → Int32) (n k : Nat) (pre : List (Nat × Nat)) (free w : Nat) (acc : Option (List (Nat × Nat) × Nat)) (s : Nat) : Option (List (Nat × Nat) × Nat) := (List.range s).foldl (fun a s => fS row K n k pre free w s a) acc
theorem foldl_fm {α β γ : Type} (f : α → List β) (g : γ → β → γ) : ∀ (l : List α) (a : γ), (l.flatMap f).foldl g a = l.foldl (fun a x => (f x).foldl g a) a
  | [], _ => rfl
  | x :: l, a => by rw [List.flatMap_cons, List.foldl_append, foldl_fm f g l]; rfl
theorem fo_0 (row K : Nat → Int32) (n : Nat) (pre : List (Nat × Nat)) (free w : Nat) (acc : Option (List (Nat × Nat) × Nat)) : fo row K n 0 pre free w acc = btr acc (pre, w) := by
  unfold fo
  rw [cand]
  show btr acc (pre ++ [], w + 0) = _
  rw [List.append_nil, Nat.add_zero]
theorem fo_succ (row K : Nat → Int32) (n k : Nat) (pre : List (Nat × Nat)) (free w : Nat) (acc : Option (List (Nat × Nat) × Nat)) : fo row K n (k + 1) pre free w acc = fA row K n k pre free w acc n := by
  unfold fo fA
  rw [cand, foldl_fm]
  congr 1
  funext a s
  unfold fS
  by_cases z : s ∈ pre.map Prod.fst
  · rw [if_pos z, if_pos (List.mem_reverse.mpr z)]; rfl
  · rw [if_neg z, if_neg (fun y => z (List.mem_reverse.mp y))]
    cases bgA row K s (max (ix (K (103 + 3 * s))) free) with
    | none => rfl
    | some b =>
      show ((cand row K n k (s :: (pre.map Prod.fst).reverse) (b + ix (K (104 + 3 * s)))).map fun c => ((s, b) :: c.1, (b - ix (K (103 + 3 * s))) + c.2)).foldl (fun a c => btr a (pre ++ c.1, w + c.2)) a = fo row K n k (pre ++ [(s, b)]) (b + ix (K (104 + 3 * s))) (w + (b - ix (K (103 + 3 * s)))) a
      unfold fo
      rw [List.foldl_map, List.map_append, List.reverse_append]
      show List.foldl _ a (cand row K n k (s :: (pre.map Prod.fst).reverse) (b + ix (K (104 + 3 * s)))) = List.foldl _ a (cand row K n k (s :: (pre.map Prod.fst).reverse) (b + ix (K (104 + 3 * s))))
      congr 1
      funext a c
      rw [List.append_assoc, Nat.add_assoc]
      rfl
theorem fA_succ (row K : Nat → Int32) (n k : Nat) (pre : List (Nat × Nat)) (free w : Nat) (acc : Option (List (Nat × Nat) × Nat)) (s : Nat) : fA row K n k pre free w acc (s + 1) = fS row K n k pre free w s (fA row K n k pre free w acc s) := by
  unfold fA
  rw [List.range_succ, List.foldl_append]
  rfl
theorem fo_bst (row K : Nat → Int32) : fo row K (ix (K 186)) (ix (K 186)) [] 0 0 none = bstC row K := by
  unfold fo bstC
  congr 1
  funext a c
  show btr a ([] ++ c.1, 0 + c.2) = _
  rw [List.nil_append, Nat.zero_add]
theorem TR_pre {a b : Nat} {pre l : List (Nat × Nat)} {h : Hp} (H : TRn a b (pre ++ l) h) : TRn a b pre h := fun i q e => by
  have hi : i < pre.length := (List.getElem?_eq_some_iff.mp e).1
  exact H i q (by rw [List.getElem?_append_left hi]; exact e)
theorem TR_snoc {a b s x : Nat} {pre : List (Nat × Nat)} {h : Hp} (hab : a ≠ b) (hs : ¬ s ∈ pre.map Prod.fst) (H : TRn a b pre h) : TRn a b (pre ++ [(s, x)]) (sI (sI h a pre.length (nI s)) b s (nI x)) := fun i q e => by
  by_cases hi : i < pre.length
  · rw [List.getElem?_append_left hi] at e
    obtain ⟨h1, h2⟩ := H i q e
    have hq : q.1 ≠ s := fun z => hs (List.mem_map.mpr ⟨q, List.mem_of_getElem? e, z⟩)
    constructor
    · rw [hI_sI', if_neg (fun z => hab z.1), hI_sI', if_neg (by omega)]; exact h1
    · rw [hI_sI', if_neg (fun z => hq z.2), hI_sI', if_neg (fun z => hab z.1.symm)]; exact h2
  · rw [List.getElem?_append_right (by omega)] at e
    have hi2 : i - pre.length = 0 := by
      have := (List.getElem?_eq_some_iff.mp e).1
      simp only [List.length_cons, List.length_nil] at this
      omega
    rw [hi2] at e
    cases e
    constructor
    · rw [hI_sI', if_neg (fun z => hab z.1), hI_sI', if_pos ⟨rfl, by omega⟩]
    · rw [hI_sI', if_pos ⟨rfl, rfl⟩]
theorem TR_eq {a b : Nat} {pre : List (Nat × Nat)} {h g : Hp} (ea : hI g a = hI h a) (eb : hI g b = hI h b) (H : TRn a b pre h) : TRn a b pre g := fun i q e => by rw [ea, eb]; exact H i q e
theorem BK_eq {m k a b : Nat} {acc : Option (List (Nat × Nat) × Nat)} {h g : Hp} (em : hI g m k = hI h m k) (ea : hI g a = hI h a) (eb : hI g b = hI h b) (H : BKn m k a b acc h) : BKn m k a b acc g := by
  unfold BKn at H ⊢
  cases acc with
  | none => exact em.trans H
  | some c => exact ⟨em.trans H.1, TR_eq ea eb H.2⟩
/-- which ships have gone, as bits -/
def UB (u : Nat) (l : List Nat) : Prop := u < 64 ∧ ∀ t, t < 6 → (z_shr (nI u) (nI t) &&& 1) = if t ∈ l then 1 else 0
theorem bit_or : ∀ u : Fin 64, ∀ s : Fin 6, nI u.1 ||| z_shl 1 (nI s.1) = nI (u.1 ||| 2 ^ s.1) ∧ (u.1 ||| 2 ^ s.1) < 64 ∧ ∀ t : Fin 6, (z_shr (nI (u.1 ||| 2 ^ s.1)) (nI t.1) &&& 1) = if t.1 = s.1 then 1 else z_shr (nI u.1) (nI t.1) &&& 1 := by decide +kernel
theorem UB_0 : UB 0 [] := ⟨by decide, fun t ht => by
  have : ∀ t : Fin 6, (z_shr (nI 0) (nI t.1) &&& 1) = 0 := by decide +kernel
  exact this ⟨t, ht⟩⟩
theorem UB_or {u s : Nat} {l : List Nat} (hs : s < 6) (H : UB u l) : ∃ v, nI u ||| z_shl 1 (nI s) = nI v ∧ UB v (l ++ [s]) := by
  obtain ⟨h1, h2, h3⟩ := bit_or ⟨u, H.1⟩ ⟨s, hs⟩
  refine ⟨_, h1, h2, fun t ht => ?_⟩
  have := h3 ⟨t, ht⟩
  rw [this]
  show (if t = s then (1 : Int32) else z_shr (nI u) (nI t) &&& 1) = _
  rw [H.2 t ht]
  by_cases z : t = s
  · rw [if_pos z, if_pos (by rw [z]; exact List.mem_append_right _ (List.mem_singleton.mpr rfl))]
  · rw [if_neg z]
    by_cases y : t ∈ l
    · rw [if_pos y, if_pos (List.mem_append_left _ y)]
    · rw [if_neg y, if_neg (fun x => by
        rcases List.mem_append.mp x with x | x
        · exact y x
        · exact z (List.mem_singleton.mp x))]
/-- a beginning: its ships, its wait, when the strait is free -/
def PO (n : Nat) (pre : List (Nat × Nat)) (u free w : Nat) : Prop := UB u (pre.map Prod.fst) ∧ (∀ q, q ∈ pre → q.1 < n) ∧ free ≤ 1600 ∧ w ≤ 1440 * pre.length ∧ pre.length ≤ n
theorem PO_0 (n : Nat) : PO n [] 0 0 0 := ⟨UB_0, (fun q z => by cases z), by decide, by decide, Nat.zero_le _⟩
theorem bgA_b {row K : Nat → Int32} {s f b : Nat} (e : bgA row K s f = some b) : f ≤ b ∧ b < 1440 := by
  have := bgF_ge _ _ _ e
  omega
