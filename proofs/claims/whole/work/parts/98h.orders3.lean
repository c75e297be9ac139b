/-! ships: the class tries the orders that may be better -/
theorem fo_ge (row K : Nat → Int32) (n k : Nat) (pre : List (Nat × Nat)) (free w : Nat) (x : List (Nat × Nat) × Nat) (hx : x.2 ≤ w) : fo row K n k pre free w (some x) = some x := by
  unfold fo
  generalize cand row K n k ((pre.map Prod.fst).reverse) free = l
  induction l with
  | nil => rfl
  | cons c l ih =>
    rw [List.foldl_cons]
    have : btr (some x) (pre ++ c.1, w + c.2) = some x := if_neg (by show ¬ w + c.2 < x.2; omega)
    rw [this]
    exact ih
theorem z_max_nI {a b : Nat} (ha : a < 2147483648) (hb : b < 2147483648) : z_max (nI a) (nI b) = nI (max b a) := by
  unfold z_max
  by_cases z : a < b
  · rw [if_pos (by rw [nI_ltI (by omega) (by omega)]; exact z), show max b a = b by omega]
  · rw [if_neg (by rw [nI_ltI (by omega) (by omega)]; exact z), show max b a = a by omega]
def sLu (j : Nat) : Bool := decide (69 ≤ j) && decide (j ≤ 73)
theorem sLu_no {j : Nat} (h : j < 69 ∨ 73 < j) : sLu j = false := by
  unfold sLu
  rcases h with h | h
  · rw [decide_eq_false (p := 69 ≤ j) (by omega)]; rfl
  · rw [decide_eq_false (p := j ≤ 73) (by omega), Bool.and_false]
theorem sLu_of {j : Nat} (h : sLu j = false) : j < 69 ∨ 73 < j := by
  unfold sLu at h
  simp only [Bool.and_eq_false_iff, decide_eq_false_iff_not] at h
  omega
theorem eqO_cpI {S : Nat → Bool} {h g : Hp} {a b : Nat} {x y m : Int32} (E : eqO S h g) (hs : S b = true) : eqO S h (cpI g a x b y m) := ⟨E.1, fun i hi => ⟨by
  show (if i = b then _ else hI g i) = _
  rw [if_neg (by rintro rfl; rw [hs] at hi; cases hi)]; exact (E.2 i hi).1, (E.2 i hi).2⟩⟩
def LUX (T : TF) (K : Nat → Int32) (n r : Nat) (h : Hp) : Prop := hR h 69 2 = some r ∧ nd h r 0 8640 ∧ NS ≤ r ∧ SBr T K n r h
theorem LUX_eq {T : TF} {K : Nat → Int32} {n r : Nat} {h g : Hp} (E : eqO sLu h g) (X : LUX T K n r h) : LUX T K n r g := by
  obtain ⟨x1, x2, x3, x4⟩ := X
  have r0 : 114 ≤ r := x3
  refine ⟨by rw [hR_of E.1]; exact x1, nd_eq E.1 x2, x3, fun s m hs hm => ?_⟩
  rw [(E.2 r (sLu_no (by omega))).1]
  exact x4 s m hs hm
theorem p_lineUp {T : TF} {K : Nat → Int32} {n r : Nat} (rg : Rg K) (en : K 186 = nI n) (hn : n ≤ 6) : ∀ (k d : Nat) (pre : List (Nat × Nat)) (u free w : Nat) (acc : Option (List (Nat × Nat) × Nat)) (h : Hp), k < d → pre.length + k = n → StP K h 1 → (0 < n → LUX T K n r h) → PO n pre u free w → TRn 70 71 pre h → BKn 69 7 72 73 acc h → AB acc → (∀ c, acc = some c → w < c.2) →
    ∃ h2, r_Locks_lineUp d (nI pre.length) (nI u) (nI free) (nI w) h = some h2 ∧ eqO sLu h h2 ∧ TRn 70 71 pre h2 ∧ BKn 69 7 72 73 (fo (td0 T (mk pF K)) (mk pS K) n k pre free w acc) h2 ∧ AB (fo (td0 T (mk pF K)) (mk pS K) n k pre free w acc) := by
  intro k
  induction k with
  | zero =>
    intro d pre u free w acc h hd hl st X P TT B A W
    obtain ⟨d, rfl⟩ : ∃ e, d = e + 1 := ⟨d - 1, by omega⟩
    obtain ⟨p1, p2, p3, p4, p5⟩ := P
    have e17 : hI h 1 17 = nI n := (StP_at st (j := 186) (by decide) rfl).trans en
    rw [fo_0]
    show ∃ h2, b_Locks_lineUp (r_Locks_lineUp d) (nI pre.length) (nI u) (nI free) (nI w) h = some h2 ∧ _
    unfold b_Locks_lineUp
    rw [e17, if_neg (by rw [nI_ltI (by omega) (by omega)]; omega), lt_eq, cy_some (n := 6) (m := 6) (nd_of (by decide) rfl) (nd_of (by decide) rfl) rfl (by decide), lt_eq, cy_some (n := 6) (m := 6) (nd_of (by decide) rfl) (nd_of (by decide) rfl) rfl (by decide)]
    have wb : w ≤ 8640 := by omega
    have eb : btr acc (pre, w) = some (pre, w) := by
      cases acc with
      | none => rfl
      | some c => exact if_pos (W c rfl)
    rw [eb]
    refine ⟨_, rfl, eqO_cpI (eqO_cpI (eqO_sI (eqO_refl _ _) (by decide)) (by decide)) (by decide), fun i q e => ?_, ⟨?_, fun i q e => ?_⟩, fun c e => by cases e; exact wb⟩
    · obtain ⟨t1, t2⟩ := TT i q e
      rw [hI_cpI _ (n := 6) (m := 6) rfl (by decide), if_neg (by omega), hI_cpI _ (n := 6) (m := 6) rfl (by decide), if_neg (by omega), hI_sI_ne (by decide), hI_cpI _ (n := 6) (m := 6) rfl (by decide), if_neg (by omega), hI_cpI _ (n := 6) (m := 6) rfl (by decide), if_neg (by omega), hI_sI_ne (by decide)]
      exact ⟨t1, t2⟩
    · rw [hI_cpI _ (n := 6) (m := 6) rfl (by decide), if_neg (by omega), hI_cpI _ (n := 6) (m := 6) rfl (by decide), if_neg (by omega), hI_sI', if_pos ⟨rfl, rfl⟩]
    · obtain ⟨t1, t2⟩ := TT i q e
      have hi : i < pre.length := (List.getElem?_eq_some_iff.mp e).1
      have hq := p2 q (List.mem_of_getElem? e)
      rw [hI_cpI _ (n := 6) (m := 6) rfl (by decide), if_neg (by omega), hI_cpI _ (n := 6) (m := 6) rfl (by decide), if_pos ⟨rfl, by omega⟩, hI_sI_ne (by decide), hI_cpI _ (n := 6) (m := 6) rfl (by decide), if_pos ⟨rfl, by omega⟩, hI_cpI _ (n := 6) (m := 6) rfl (by decide), if_neg (by omega), hI_sI_ne (by decide)]
      exact ⟨t1, t2⟩
  | succ k IH =>
    intro d pre u free w acc h hd hl st X P TT B A W
    obtain ⟨d, rfl⟩ : ∃ e, d = e + 1 := ⟨d - 1, by omega⟩
    have X := X (by omega)
    have e17 : hI h 1 17 = nI n := (StP_at st (j := 186) (by decide) rfl).trans en
    rw [fo_succ]
    show ∃ h2, b_Locks_lineUp (r_Locks_lineUp d) (nI pre.length) (nI u) (nI free) (nI w) h = some h2 ∧ _
    unfold b_Locks_lineUp
    rw [e17, if_pos (by rw [nI_ltI (by omega) (by omega)]; omega)]
    have w6 : w ≤ 8640 := by have := P.2.2.2.1; omega
    have loop : ∀ (r1 s : Nat) (g : Hp), s + r1 = n → eqO sLu h g → TRn 70 71 pre g → BKn 69 7 72 73 (fA (td0 T (mk pF K)) (mk pS K) n k pre free w acc s) g → AB (fA (td0 T (mk pF K)) (mk pS K) n k pre free w acc s) → ∃ h2, lp (fun q : Int32 × Int32 × Int32 × Int32 × Int32 × Hp => b_Locks_lineUp_51 (r_Locks_lineUp d) q.1 q.2.1 q.2.2.1 q.2.2.2.1 q.2.2.2.2.1 q.2.2.2.2.2) (nI pre.length, nI u, nI free, nI w, nI s, g) = some h2 ∧ eqO sLu h h2 ∧ TRn 70 71 pre h2 ∧ BKn 69 7 72 73 (fA (td0 T (mk pF K)) (mk pS K) n k pre free w acc n) h2 ∧ AB (fA (td0 T (mk pF K)) (mk pS K) n k pre free w acc n) := by
      intro r1
      induction r1 with
      | zero =>
        intro s g hs E T1 B1 A1
        have hs : s = n := by omega
        subst hs
        refine ⟨g, lp_inr ?_, E, T1, B1, A1⟩
        show b_Locks_lineUp_51 (r_Locks_lineUp d) (nI pre.length) (nI u) (nI free) (nI w) (nI s) g = _
        unfold b_Locks_lineUp_51
        rw [(E.2 1 (by decide)).1, e17, if_pos (Int32.le_refl _)]
      | succ r1 ih =>
        intro s g hs E T1 B1 A1
        have hs2 : s < n := by omega
        have stg : StP K g 1 := StP_eq E (fun j h1 h2 => sLu_no (by omega)) st
        obtain ⟨x1, x2, x3, x4⟩ := LUX_eq E X
        obtain ⟨⟨rd, r1', r2, r3⟩, p, q1, q2, q3, q4⟩ := Rg_one rg en hn hs2
        have kr : ix (mk pS K (103 + 3 * s)) = rd := by rw [ks_eq (Or.inr (Or.inl (by omega))), r3]
        have kp : ix (mk pS K (104 + 3 * s)) = p := by rw [ks_eq (Or.inr (Or.inl (by omega))), q4]
        have e10 : hI g 10 s = nI rd := (StP_at stg (by omega) (pl_ready s (by omega))).trans r2
        have e11 : hI g 11 s = nI p := (StP_at stg (by omega) (pl_pass s (by omega))).trans q3
        have hf := P.2.2.1
        have b204 : ∀ g1, b_Locks_lineUp_204 (r_Locks_lineUp d) (nI pre.length) (nI u) (nI free) (nI w) (nI s) g1 = some (.inl (nI pre.length, nI u, nI free, nI w, nI (s + 1), g1)) := fun g1 => by
          unfold b_Locks_lineUp_204
          rw [nI_1]
        have stp : ∃ g2, b_Locks_lineUp_51 (r_Locks_lineUp d) (nI pre.length) (nI u) (nI free) (nI w) (nI s) g = some (.inl (nI pre.length, nI u, nI free, nI w, nI (s + 1), g2)) ∧ eqO sLu h g2 ∧ TRn 70 71 pre g2 ∧ BKn 69 7 72 73 (fA (td0 T (mk pF K)) (mk pS K) n k pre free w acc (s + 1)) g2 ∧ AB (fA (td0 T (mk pF K)) (mk pS K) n k pre free w acc (s + 1)) := by
          rw [fA_succ]
          generalize fA (td0 T (mk pF K)) (mk pS K) n k pre free w acc s = ac at B1 A1 ⊢
          unfold b_Locks_lineUp_51 fS
          rw [(E.2 1 (by decide)).1, e17, if_neg (by rw [nI_leI (by omega) (by omega)]; omega), P.1.2 s (by omega), ib_nI (by omega) (by decide)]
          by_cases z : s ∈ pre.map Prod.fst
          · rw [if_pos z, if_pos z, if_neg (show ¬ (1 : Int32) = 0 by decide)]
            exact ⟨g, b204 g, E, T1, B1, A1⟩
          · rw [if_neg z, if_neg z, if_pos (show (0 : Int32) = 0 from rfl), show ix (nI s) = s from nI_clamp (by omega), e10, z_max_nI (by omega) (by omega), kr, kp]
            by_cases y : max rd free < 1440
            · rw [if_pos (by rw [show (1440 : Int32) = nI 1440 from rfl, nI_ltI (by omega) (by decide)]; exact y), x1, nn_some, ak_some x2, ln_of x2, show nI s * 1440 + nI (max rd free) = nI (1440 * s + max rd free) by rw [show (1440 : Int32) = nI 1440 from rfl, nI_mul, nI_add, Nat.mul_comm], ib_nI (by omega) (by decide), lt_eq, ib_nI (by omega) (by decide), show ix (nI (1440 * s + max rd free)) = 1440 * s + max rd free from nI_clamp (by omega), x4 s _ hs2 y]
              cases hb : bgA (td0 T (mk pF K)) (mk pS K) s (max rd free) with
              | none =>
                rw [if_pos (show oI none = -1 from rfl)]
                exact ⟨g, b204 g, E, T1, B1, A1⟩
              | some b =>
                have bb := bgA_b hb
                show ∃ g2, _ ∧ _ ∧ _ ∧ BKn 69 7 72 73 (fo (td0 T (mk pF K)) (mk pS K) n k (pre ++ [(s, b)]) (b + p) (w + (b - rd)) ac) g2 ∧ AB (fo (td0 T (mk pF K)) (mk pS K) n k (pre ++ [(s, b)]) (b + p) (w + (b - rd)) ac)
                rw [show oI (some b) = nI b from rfl, if_neg (nI_m1 (by omega)), nI_add, nI_sub (by omega), show w + b - rd = w + (b - rd) by omega]
                have e159 : (∀ c, ac = some c → w + (b - rd) < c.2) → ∃ g2, b_Locks_lineUp_159 (r_Locks_lineUp d) (nI pre.length) (nI u) (nI free) (nI w) (nI s) (nI b) (nI (w + (b - rd))) g = some (.inl (nI pre.length, nI u, nI free, nI w, nI (s + 1), g2)) ∧ eqO sLu h g2 ∧ TRn 70 71 pre g2 ∧ BKn 69 7 72 73 (fo (td0 T (mk pF K)) (mk pS K) n k (pre ++ [(s, b)]) (b + p) (w + (b - rd)) ac) g2 ∧ AB (fo (td0 T (mk pF K)) (mk pS K) n k (pre ++ [(s, b)]) (b + p) (w + (b - rd)) ac) := by
                  intro W2
                  obtain ⟨v, v1, v2⟩ := PO_step (r := rd) (p := p) hn hs2 P (by omega) hb q2
                  have E3 : eqO sLu h (sI (sI g 70 pre.length (nI s)) 71 s (nI b)) := eqO_sI (eqO_sI E (by decide)) (by decide)
                  obtain ⟨h2, c1, c2, c4, c5, c6⟩ := IH d (pre ++ [(s, b)]) v (b + p) (w + (b - rd)) ac _ (by omega) (by rw [List.length_append, List.length_singleton]; omega) (StP_eq E3 (fun j h1 h2 => sLu_no (by omega)) st) (fun _ => LUX_eq E3 X) v2 (TR_snoc (by decide) z T1) (BK_eq (by rw [hI_sI_ne (by decide), hI_sI_ne (by decide)]) (by rw [hI_sI_ne (by decide), hI_sI_ne (by decide)]) (by rw [hI_sI_ne (by decide), hI_sI_ne (by decide)]) B1) A1 W2
                  rw [List.length_append, List.length_singleton] at c1
                  refine ⟨h2, ?_, eqO_trans E3 c2, TR_pre c4, c5, c6⟩
                  unfold b_Locks_lineUp_159
                  rw [ib_nI (by omega) (by decide), lt_eq, ib_nI (by omega) (by decide), lt_eq, ib_nI (by omega) (by decide), show ix (nI pre.length) = pre.length from nI_clamp (by omega), show ix (nI s) = s from nI_clamp (by omega), hI_sI_ne (i := 11) (by decide), hI_sI_ne (i := 11) (by decide), e11, nI_add, v1, nI_1, c1, Option.bind_some]
                  exact b204 h2
                cases ac with
                | none =>
                  rw [if_pos (show hI g 69 7 = -1 from B1)]
                  exact e159 (fun c e => by cases e)
                | some c =>
                  have cb := A1 c rfl
                  rw [B1.1, if_neg (nI_m1 (by omega))]
                  by_cases x : w + (b - rd) < c.2
                  · rw [if_pos (by rw [nI_ltI (by omega) (by omega)]; exact x)]
                    exact e159 (fun c2 e => by cases e; exact x)
                  · rw [if_neg (by rw [nI_ltI (by omega) (by omega)]; exact x), fo_ge _ _ _ _ _ _ _ _ (by omega)]
                    exact ⟨g, b204 g, E, T1, B1, A1⟩
            · have hb : bgA (td0 T (mk pF K)) (mk pS K) s (max rd free) = none := by
                unfold bgA
                rw [show 1440 - max rd free = 0 by omega]
                rfl
              rw [if_neg (by rw [show (1440 : Int32) = nI 1440 from rfl, nI_ltI (by omega) (by decide)]; exact y), hb]
              exact ⟨g, b204 g, E, T1, B1, A1⟩
        obtain ⟨g2, a1, a2, a4, a5, a6⟩ := stp
        rw [lp_inl a1]
        exact ih (s + 1) g2 (by omega) a2 a4 a5 a6
    exact loop n 0 h (by omega) (eqO_refl _ _) TT B A
