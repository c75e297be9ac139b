/-! ships: the reference tries all orders -/
theorem PO_step {K : Nat → Int32} {row : Nat → Int32} {n s b r p free w u : Nat} {pre : List (Nat × Nat)} (hn : n ≤ 6) (hs : s < n) (P : PO n pre u free w) (hl : pre.length < n) (e : bgA row K s (max r free) = some b) (hp : p ≤ 120) : ∃ v, nI u ||| z_shl 1 (nI s) = nI v ∧ PO n (pre ++ [(s, b)]) v (b + p) (w + (b - r)) := by
  obtain ⟨p1, p2, p3, p4, p5⟩ := P
  obtain ⟨v, v1, v2⟩ := UB_or (s := s) (by omega) p1
  have hb := bgA_b e
  refine ⟨v, v1, by rw [List.map_append]; exact v2, fun q hq => ?_, by omega, ?_, ?_⟩
  · rcases List.mem_append.mp hq with z | z
    · exact p2 q z
    · rw [List.mem_singleton.mp z]; exact hs
  · rw [List.length_append, List.length_singleton]; omega
  · rw [List.length_append, List.length_singleton]; omega
def AB (acc : Option (List (Nat × Nat) × Nat)) : Prop := ∀ c, acc = some c → c.2 ≤ 8640
def sOr (j : Nat) : Bool := decide (j = 84) || decide (j = 104) || decide (j = 105) || decide (j = 106) || decide (j = 107)
def n38 (k : Nat) : Bool := !decide (k = 38)
theorem sOr_sRf (j : Nat) (h : sRf j = false) : sOr j = false := by
  unfold sRf at h
  simp only [Bool.or_eq_false_iff, Bool.and_eq_false_iff, decide_eq_false_iff_not] at h
  unfold sOr
  rw [decide_eq_false (p := j = 84) h.1, decide_eq_false (p := j = 104) (by omega), decide_eq_false (p := j = 105) (by omega), decide_eq_false (p := j = 106) (by omega), decide_eq_false (p := j = 107) (by omega)]
  rfl
theorem LX_or {τ : Nat → TF} {K : Nat → Int32} {h g : Hp} (X : LX τ K h) (E : eqO sOr h g) : LX τ K g := by
  obtain ⟨⟨x1, x2, x3⟩, l1, l2⟩ := X
  refine ⟨⟨by rw [(E.2 86 (by decide)).1]; exact x1, x2, x3⟩, ?_, ?_⟩
  · rw [(E.2 97 (by decide)).1]; exact l1
  · rw [(E.2 99 (by decide)).1]; exact l2
theorem p_or34 {rc : Int32 → Int32 → Int32 → Int32 → Hp → Option Hp} {n w : Nat} {pre : List (Nat × Nat)} {h : Hp} (hn : n ≤ 6) (hl : pre.length = n) (lt6 : ∀ q, q ∈ pre → q.1 < n) (T : TRn 104 106 pre h) : ∃ h2, b_Mod_orders_34 rc (nI w) (nI n) h = some h2 ∧ eqO sOr h h2 ∧ m84 n38 h h2 ∧ TRn 104 106 pre h2 ∧ hI h2 84 38 = nI w ∧ TRn 105 107 pre h2 := by
  have loop : ∀ (r i : Nat) (g : Hp), i + r = n → eqO sOr h g → m84 n38 h g → hI g 104 = hI h 104 → hI g 106 = hI h 106 → hI g 84 38 = nI w → (∀ j q, j < i → pre[j]? = some q → hI g 105 j = nI q.1 ∧ hI g 107 q.1 = nI q.2) → ∃ h2, lp (fun q : Int32 × Int32 × Hp => b_Mod_orders_43 rc q.1 q.2.1 q.2.2) (nI n, nI i, g) = some h2 ∧ eqO sOr h h2 ∧ m84 n38 h h2 ∧ TRn 104 106 pre h2 ∧ hI h2 84 38 = nI w ∧ TRn 105 107 pre h2 := by
    intro r
    induction r with
    | zero =>
      intro i g hi E M e4 e6 e38 P
      refine ⟨g, lp_inr ?_, E, M, TR_eq e4 e6 T, e38, fun j q e => P j q (by have := (List.getElem?_eq_some_iff.mp e).1; omega) e⟩
      show b_Mod_orders_43 rc (nI n) (nI i) g = _
      unfold b_Mod_orders_43
      rw [if_pos (by rw [nI_leI (by omega) (by omega)]; omega)]
    | succ r ih =>
      intro i g hi E M e4 e6 e38 P
      have hil : i < pre.length := by omega
      have eq : pre[i]? = some pre[i] := List.getElem?_eq_getElem hil
      have hq := lt6 _ (List.mem_of_getElem? eq)
      obtain ⟨t1, t2⟩ := T i _ eq
      have stp : b_Mod_orders_43 rc (nI n) (nI i) g = some (.inl (nI n, nI (i + 1), sI (sI g 105 i (nI pre[i].1)) 107 pre[i].1 (nI pre[i].2))) := by
        unfold b_Mod_orders_43
        rw [if_neg (by rw [nI_leI (by omega) (by omega)]; omega), ib_nI (by omega) (by decide), ib_nI (by omega) (by decide), lt_eq, ib_nI (by omega) (by decide), ib_nI (by omega) (by decide), show ix (nI i) = i from nI_clamp (by omega), hI_sI_ne (i := 104) (by decide), e4, t1, ib_nI (by omega) (by decide), ib_nI (by omega) (by decide), show ix (nI pre[i].1) = pre[i].1 from nI_clamp (by omega), hI_sI_ne (i := 106) (by decide), e6, t2, nI_1]
      rw [lp_inl stp]
      refine ih (i + 1) _ (by omega) (eqO_sI (eqO_sI E (by decide)) (by decide)) (m84_sI (m84_sI M (Or.inl (by decide))) (Or.inl (by decide))) ?_ ?_ ?_ (fun j q hj e => ?_)
      · rw [hI_sI_ne (by decide), hI_sI_ne (by decide)]; exact e4
      · rw [hI_sI_ne (by decide), hI_sI_ne (by decide)]; exact e6
      · rw [hI_sI_ne (by decide), hI_sI_ne (by decide)]; exact e38
      · obtain ⟨u1, u2⟩ := T j q e
        rw [hI_sI_ne (i := 105) (by decide), hI_sI', hI_sI', hI_sI_ne (i := 107) (by decide)]
        constructor
        · by_cases z : j = i
          · subst z
            rw [eq] at e
            cases e
            rw [if_pos ⟨rfl, rfl⟩]
          · rw [if_neg (by omega)]; exact (P j q (by omega) e).1
        · by_cases z : q.1 = pre[i].1
          · rw [if_pos ⟨rfl, z⟩, ← t2, ← z]; exact u2
          · rw [if_neg (fun y => z y.2)]
            by_cases y : j = i
            · subst y
              rw [eq] at e
              cases e
              exact absurd rfl z
            · exact (P j q (by omega) e).2
  unfold b_Mod_orders_34
  exact loop n 0 _ (by omega) (eqO_sI (eqO_refl _ _) (by decide)) (m84_sI (m84_refl _ _) (Or.inr (by decide))) (hI_sI_ne (by decide)) (hI_sI_ne (by decide)) (by rw [hI_sI', if_pos ⟨rfl, rfl⟩]) (fun j q hj => absurd hj (by omega))
theorem p_orders {τ : Nat → TF} {K : Nat → Int32} {n : Nat} (en : K 186 = nI n) (hn : n ≤ 6) : ∀ (k d : Nat) (pre : List (Nat × Nat)) (u free w : Nat) (acc : Option (List (Nat × Nat) × Nat)) (h : Hp), k < d → pre.length + k = n → LX τ K h → PO n pre u free w → TRn 104 106 pre h → BKn 84 38 105 107 acc h → AB acc →
    ∃ h2, r_Mod_orders d (nI pre.length) (nI u) (nI free) (nI w) h = some h2 ∧ eqO sOr h h2 ∧ m84 n38 h h2 ∧ TRn 104 106 pre h2 ∧ BKn 84 38 105 107 (fo (td0 (tin τ K) (mk pF K)) (mk pS K) n k pre free w acc) h2 ∧ AB (fo (td0 (tin τ K) (mk pF K)) (mk pS K) n k pre free w acc) := by
  intro k
  induction k with
  | zero =>
    intro d pre u free w acc h hd hl X P T B A
    obtain ⟨d, rfl⟩ : ∃ e, d = e + 1 := ⟨d - 1, by omega⟩
    obtain ⟨p1, p2, p3, p4, p5⟩ := P
    rw [fo_0]
    show ∃ h2, b_Mod_orders (r_Mod_orders d) (nI pre.length) (nI u) (nI free) (nI w) h = some h2 ∧ _
    unfold b_Mod_orders
    rw [ib_some _ (by decide) (by decide), show ix 186 = 186 by decide, X.1.1, en, if_pos (by rw [show pre.length = n by omega])]
    obtain ⟨h2, a1, a2, a3, a4, a5, a6⟩ := p_or34 (rc := r_Mod_orders d) (w := w) hn (by omega) p2 T
    have wb : w ≤ 8640 := by omega
    cases acc with
    | none =>
      rw [if_pos (show hI h 84 38 = -1 from B)]
      exact ⟨h2, a1, a2, a3, a4, ⟨a5, a6⟩, fun c e => by cases e; exact wb⟩
    | some c =>
      have cb := A c rfl
      rw [B.1, if_neg (nI_m1 (by omega))]
      by_cases z : w < c.2
      · rw [if_pos (by rw [nI_ltI (by omega) (by omega)]; exact z)]
        show ∃ h2, _ ∧ _ ∧ _ ∧ _ ∧ BKn 84 38 105 107 (if w < c.2 then some (pre, w) else some c) h2 ∧ AB (if w < c.2 then some (pre, w) else some c)
        rw [if_pos z]
        exact ⟨h2, a1, a2, a3, a4, ⟨a5, a6⟩, fun c e => by cases e; exact wb⟩
      · rw [if_neg (by rw [nI_ltI (by omega) (by omega)]; exact z)]
        show ∃ h2, _ ∧ _ ∧ _ ∧ _ ∧ BKn 84 38 105 107 (if w < c.2 then some (pre, w) else some c) h2 ∧ AB (if w < c.2 then some (pre, w) else some c)
        rw [if_neg z]
        exact ⟨h, rfl, eqO_refl _ _, m84_refl _ _, T, B, A⟩
  | succ k IH =>
    intro d pre u free w acc h hd hl X P T B A
    obtain ⟨d, rfl⟩ : ∃ e, d = e + 1 := ⟨d - 1, by omega⟩
    rw [fo_succ]
    show ∃ h2, b_Mod_orders (r_Mod_orders d) (nI pre.length) (nI u) (nI free) (nI w) h = some h2 ∧ _
    unfold b_Mod_orders
    rw [ib_some _ (by decide) (by decide), show ix 186 = 186 by decide, X.1.1, en, if_neg (by rw [nI_eq (by omega) (by omega)]; omega)]
    have w6 : w ≤ 8640 := by have := P.2.2.2.1; omega
    have loop : ∀ (r s : Nat) (g : Hp), s + r = n → eqO sOr h g → m84 n38 h g → TRn 104 106 pre g → BKn 84 38 105 107 (fA (td0 (tin τ K) (mk pF K)) (mk pS K) n k pre free w acc s) g → AB (fA (td0 (tin τ K) (mk pF K)) (mk pS K) n k pre free w acc s) → ∃ h2, lp (fun q : Int32 × Int32 × Int32 × Int32 × Int32 × Int32 × Hp => b_Mod_orders_98 (r_Mod_orders d) q.1 q.2.1 q.2.2.1 q.2.2.2.1 q.2.2.2.2.1 q.2.2.2.2.2.1 q.2.2.2.2.2.2) (nI pre.length, nI u, nI free, nI w, nI n, nI s, g) = some h2 ∧ eqO sOr h h2 ∧ m84 n38 h h2 ∧ TRn 104 106 pre h2 ∧ BKn 84 38 105 107 (fA (td0 (tin τ K) (mk pF K)) (mk pS K) n k pre free w acc n) h2 ∧ AB (fA (td0 (tin τ K) (mk pF K)) (mk pS K) n k pre free w acc n) := by
      intro r
      induction r with
      | zero =>
        intro s g hs E M T1 B1 A1
        have hs : s = n := by omega
        subst hs
        refine ⟨g, lp_inr ?_, E, M, T1, B1, A1⟩
        show b_Mod_orders_98 (r_Mod_orders d) (nI pre.length) (nI u) (nI free) (nI w) (nI s) (nI s) g = _
        unfold b_Mod_orders_98
        rw [if_pos (Int32.le_refl _)]
      | succ r ih =>
        intro s g hs E M T1 B1 A1
        have hs2 : s < n := by omega
        have Xg := LX_or X E
        obtain ⟨⟨rd, r1, r2, r3⟩, p, q1, q2, q3, q4⟩ := Rg_one X.1.2.1 en hn hs2
        have kr : ix (mk pS K (103 + 3 * s)) = rd := by rw [ks_eq (Or.inr (Or.inl (by omega))), r3]
        have kp : ix (mk pS K (104 + 3 * s)) = p := by rw [ks_eq (Or.inr (Or.inl (by omega))), q4]
        have i0 : (103 : Int32) + 3 * nI s = nI (103 + 3 * s) := by rw [show (103 : Int32) = nI 103 from rfl, show (3 : Int32) = nI 3 from rfl, nI_mul, nI_add]
        have stp : ∃ g2, b_Mod_orders_98 (r_Mod_orders d) (nI pre.length) (nI u) (nI free) (nI w) (nI n) (nI s) g = some (.inl (nI pre.length, nI u, nI free, nI w, nI n, nI (s + 1), g2)) ∧ eqO sOr h g2 ∧ m84 n38 h g2 ∧ TRn 104 106 pre g2 ∧ BKn 84 38 105 107 (fA (td0 (tin τ K) (mk pF K)) (mk pS K) n k pre free w acc (s + 1)) g2 ∧ AB (fA (td0 (tin τ K) (mk pF K)) (mk pS K) n k pre free w acc (s + 1)) := by
          rw [fA_succ]
          unfold b_Mod_orders_98 fS
          rw [if_neg (by rw [nI_leI (by omega) (by omega)]; omega), P.1.2 s (by omega)]
          by_cases z : s ∈ pre.map Prod.fst
          · rw [if_pos z, if_pos z, if_pos rfl]
            refine ⟨g, ?_, E, M, T1, B1, A1⟩
            unfold b_Mod_orders_216
            rw [nI_1]
          · rw [if_neg z, if_neg z, if_neg (by decide), i0, ib_nI (by omega) (by decide), lt_eq, show ix (nI (103 + 3 * s)) = 103 + 3 * s from nI_clamp (by omega), Xg.1.1, r2, kr, kp]
            have hf := P.2.2.1
            have e147 : ∀ f, f = max rd free → ∃ g2, b_Mod_orders_147 (r_Mod_orders d) (nI pre.length) (nI u) (nI free) (nI w) (nI n) (nI s) (nI rd) (nI f) (nI s) g = some (.inl (nI pre.length, nI u, nI free, nI w, nI n, nI (s + 1), g2)) ∧ eqO sOr h g2 ∧ m84 n38 h g2 ∧ TRn 104 106 pre g2 ∧ BKn 84 38 105 107 (match bgA (td0 (tin τ K) (mk pF K)) (mk pS K) s (max rd free) with
                | none => fA (td0 (tin τ K) (mk pF K)) (mk pS K) n k pre free w acc s
                | some b => fo (td0 (tin τ K) (mk pF K)) (mk pS K) n k (pre ++ [(s, b)]) (b + p) (w + (b - rd)) (fA (td0 (tin τ K) (mk pF K)) (mk pS K) n k pre free w acc s)) g2 ∧ AB (match bgA (td0 (tin τ K) (mk pF K)) (mk pS K) s (max rd free) with
                | none => fA (td0 (tin τ K) (mk pF K)) (mk pS K) n k pre free w acc s
                | some b => fo (td0 (tin τ K) (mk pF K)) (mk pS K) n k (pre ++ [(s, b)]) (b + p) (w + (b - rd)) (fA (td0 (tin τ K) (mk pF K)) (mk pS K) n k pre free w acc s)) := by
              intro f ef
              rw [← ef]
              rcases p_beginsAt Xg en hn hs2 (f := f) with eb | eb
              · unfold b_Mod_orders_147
                rw [eb, Option.bind_some]
                cases hb : bgA (td0 (tin τ K) (mk pF K)) (mk pS K) s f with
                | none =>
                  rw [if_pos (show oI none = -1 from rfl)]
                  refine ⟨g, ?_, E, M, T1, B1, A1⟩
                  unfold b_Mod_orders_216
                  rw [nI_1]
                | some b =>
                  have bb := bgA_b hb
                  obtain ⟨v, v1, v2⟩ := PO_step (r := rd) (p := p) hn hs2 P (by omega) (by rw [← ef]; exact hb) q2
                  have E3 : eqO sOr h (sI (sI g 104 pre.length (nI s)) 106 s (nI b)) := eqO_sI (eqO_sI E (by decide)) (by decide)
                  have M3 : m84 n38 h (sI (sI g 104 pre.length (nI s)) 106 s (nI b)) := m84_sI (m84_sI M (Or.inl (by decide))) (Or.inl (by decide))
                  obtain ⟨h2, c1, c2, c3, c4, c5, c6⟩ := IH d (pre ++ [(s, b)]) v (b + p) (w + (b - rd)) _ _ (by omega) (by rw [List.length_append, List.length_singleton]; omega) (LX_or X E3) v2 (TR_snoc (by decide) z T1) (BK_eq (by rw [hI_sI_ne (by decide), hI_sI_ne (by decide)]) (by rw [hI_sI_ne (by decide), hI_sI_ne (by decide)]) (by rw [hI_sI_ne (by decide), hI_sI_ne (by decide)]) B1) A1
                  rw [List.length_append, List.length_singleton] at c1
                  refine ⟨h2, ?_, eqO_trans E3 c2, m84_trans M3 c3, TR_pre c4, c5, c6⟩
                  rw [show oI (some b) = nI b from rfl, if_neg (nI_m1 (by omega)), ib_nI (by omega) (by decide), lt_eq, ib_nI (by omega) (by decide), lt_eq, i0, nI_1, show 103 + 3 * s + 1 = 104 + 3 * s by omega, ib_nI (by omega) (by decide), show ix (nI pre.length) = pre.length from nI_clamp (by omega), show ix (nI s) = s from nI_clamp (by omega), show ix (nI (104 + 3 * s)) = 104 + 3 * s from nI_clamp (by omega), hI_sI_ne (i := 86) (by decide), hI_sI_ne (i := 86) (by decide), Xg.1.1, q3, nI_add, nI_add, nI_sub (by omega), v1, nI_1, show w + b - rd = w + (b - rd) by omega, c1, Option.bind_some]
                  unfold b_Mod_orders_216
                  rw [nI_1]
              · omega
            by_cases y : rd ≤ free
            · rw [if_pos (by rw [nI_leI (by omega) (by omega)]; exact y)]
              exact e147 free (by omega)
            · rw [if_neg (by rw [nI_leI (by omega) (by omega)]; exact y)]
              exact e147 rd (by omega)
        obtain ⟨g2, a1, a2, a3, a4, a5, a6⟩ := stp
        rw [lp_inl a1]
        exact ih (s + 1) g2 (by omega) a2 a3 a4 a5 a6
    exact loop n 0 h (by omega) (eqO_refl _ _) (m84_refl _ _) T B A
