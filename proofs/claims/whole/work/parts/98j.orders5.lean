/-! ships: the questions -/
theorem cand_w (row K : Nat → Int32) (n : Nat) : ∀ (k : Nat) (used : List Nat) (free : Nat) (c : List (Nat × Nat) × Nat), c ∈ cand row K n k used free → c.2 ≤ 1440 * k
  | 0, used, free, c, h => by
    rw [cand] at h
    rw [List.mem_singleton.mp h]
    exact Nat.le_refl _
  | k + 1, used, free, c, h => by
    rw [cand] at h
    obtain ⟨s, h1, h2⟩ := List.mem_flatMap.mp h
    by_cases z : s ∈ used
    · rw [if_pos z] at h2; cases h2
    · rw [if_neg z] at h2
      cases hb : bgA row K s (max (ix (K (103 + 3 * s))) free) with
      | none => rw [hb] at h2; cases h2
      | some b =>
        rw [hb] at h2
        obtain ⟨d, h3, h4⟩ := List.mem_map.mp h2
        have := cand_w row K n k _ _ d h3
        have := bgA_b hb
        rw [← h4]
        show b - ix (K (103 + 3 * s)) + d.2 ≤ _
        omega
theorem bst_b {row K : Nat → Int32} {c : List (Nat × Nat) × Nat} {n : Nat} (e : bstC row K = some c) (i : ix (K 186) = n) (hn : n ≤ 6) : c.2 < 2147483648 := by
  unfold bstC at e
  rcases btr_mem _ _ _ e with z | z
  · cases z
  · have := cand_w _ _ _ _ _ _ _ z
    omega
def bV (c : List (Nat × Nat) × Nat) (s : Nat) : Nat := match c.1.find? (fun q => decide (q.1 = s)) with
  | some q => q.2
  | none => 0
def oV (c : List (Nat × Nat) × Nat) (i : Nat) : Nat := match c.1[i]? with
  | some q => q.1
  | none => 0
def bW (b : Option (List (Nat × Nat) × Nat)) : Int32 := match b with
  | none => -1
  | some c => nI c.2
def bO (b : Option (List (Nat × Nat) × Nat)) (i : Nat) : Int32 := match b with
  | none => -1
  | some c => nI (oV c i)
def bB (b : Option (List (Nat × Nat) × Nat)) (i : Nat) : Int32 := match b with
  | none => -1
  | some c => nI (bV c i)
theorem TR_mem {a b : Nat} {l : List (Nat × Nat)} {h : Hp} (H : TRn a b l h) {q : Nat × Nat} (hq : q ∈ l) : hI h b q.1 = nI q.2 := by
  obtain ⟨i, e⟩ := List.mem_iff_getElem?.mp hq
  exact (H i q e).2
theorem BK_w {m k a b : Nat} {acc : Option (List (Nat × Nat) × Nat)} {h : Hp} (H : BKn m k a b acc h) : hI h m k = bW acc := by
  cases acc with
  | none => exact H
  | some c => exact H.1
theorem BK_o {m k a b : Nat} {c : List (Nat × Nat) × Nat} {h : Hp} (H : BKn m k a b (some c) h) {i : Nat} (hi : i < c.1.length) : hI h a i = nI (oV c i) := by
  have e : c.1[i]? = some c.1[i] := List.getElem?_eq_getElem hi
  unfold oV
  rw [e]
  exact (H.2 i _ e).1
theorem BK_b {m k a b : Nat} {c : List (Nat × Nat) × Nat} {h : Hp} (H : BKn m k a b (some c) h) {s : Nat} (hs : s ∈ c.1.map Prod.fst) : hI h b s = nI (bV c s) := by
  unfold bV
  cases e : c.1.find? (fun q => decide (q.1 = s)) with
  | none =>
    obtain ⟨q, h1, h2⟩ := List.mem_map.mp hs
    have := List.find?_eq_none.mp e q h1
    exact absurd (decide_eq_true h2) this
  | some q =>
    have h1 := List.mem_of_find?_eq_some e
    have h2 : q.1 = s := of_decide_eq_true (List.find?_some (p := fun q : Nat × Nat => decide (q.1 = s)) e)
    have := TR_mem H.2 h1
    rw [h2] at this
    exact this
theorem ships_n {K : Nat → Int32} {x : Int32} (rg : Rg K) (h : wi x 0 (K 186 - 1) = 1) : ∃ s n, s < n ∧ n ≤ 6 ∧ x = nI s ∧ K 186 = nI n ∧ ix (mk pS K 186) = n := by
  obtain ⟨n, hn, en, i⟩ := Rg_ships rg
  have h1 := wi_1.mp h
  by_cases z : n = 0
  · rw [en, z] at h1
    exact absurd (Int32.le_trans h1.1 h1.2) (by decide)
  · rw [en, show (1 : Int32) = nI 1 from rfl, nI_sub (by omega)] at h
    obtain ⟨s, hs, e⟩ := wi_nat (b := n - 1) (by omega) h
    exact ⟨s, n, by omega, hn, e, en, by rw [ks_eq (Or.inr (Or.inr rfl))]; exact i⟩
theorem m1_ships {K : Nat → Int32} (rg : Rg K) : -1 ≤ K 186 - 1 := by
  obtain ⟨n, hn, en, -⟩ := Rg_ships rg
  rw [en]
  have : ∀ n : Fin 7, -1 ≤ nI n.1 - 1 := by decide +kernel
  exact this ⟨n, by omega⟩
def aOrder (x1 : Int32) (T : TF) (K : Nat → Int32) : Int32 := if x1 = -1 then bW (bstC (td0 T (mk pF K)) (mk pS K)) else if wi x1 0 (K 186 - 1) = 0 then -1 else bO (bstC (td0 T (mk pF K)) (mk pS K)) (ix x1)
def aBegins (x1 : Int32) (T : TF) (K : Nat → Int32) : Int32 := if wi x1 0 (K 186 - 1) = 0 then -1 else bB (bstC (td0 T (mk pF K)) (mk pS K)) (ix x1)
theorem p_lines {τ : Nat → TF} {K : Nat → Int32} {h : Hp} (X : QX τ K h) : ∃ h1 h2, s_Water_freshenToday h = some h1 ∧ s_Locks_freshen h1 = some h2 ∧ CQ (tin τ K) K h h2 ∧ StP K h2 1 ∧ BKn 69 7 72 73 (bstC (td0 (tin τ K) (mk pF K)) (mk pS K)) h2 := by
  obtain ⟨h1, a1, a2, a3⟩ := p_todayX X
  obtain ⟨h2, b1, b2, b3, b4⟩ := p_freshenL a3
  exact ⟨h1, h2, a1, b1, CQ_after a2 X.1.2.2.1 b2, b3, lkOK_BK.mp b4⟩
theorem C_order {τ : Nat → TF} {K : Nat → Int32} {h : Hp} (x1 : Int32) (X : QX τ K h) : ∃ h1, s_Race_order x1 h = some (aOrder x1 (tin τ K) K, h1) ∧ CQ (tin τ K) K h h1 := by
  obtain ⟨h1, h2, a1, a2, a3, a4, a5⟩ := p_lines X
  have e17 : hI h2 1 17 = K 186 := StP_at a4 (j := 186) (by decide) rfl
  unfold s_Race_order aOrder
  rw [a1, Option.bind_some, a2, Option.bind_some]
  by_cases z : x1 = -1
  · rw [if_pos z, if_pos z, BK_w a5]
    exact ⟨h2, rfl, a3⟩
  · rw [if_neg z, if_neg z, p_within, Option.bind_some, e17]
    by_cases y : wi x1 0 (K 186 - 1) = 0
    · rw [if_pos y, if_pos y]
      exact ⟨h2, rfl, a3⟩
    · rw [if_neg y, if_neg y]
      obtain ⟨s, n, hs, hn, rfl, en, i⟩ := ships_n X.1.2.1 (wi_n0 y)
      rw [BK_w a5, show ix (nI s) = s from nI_clamp (by omega)]
      cases e : bstC (td0 (tin τ K) (mk pF K)) (mk pS K) with
      | none =>
        rw [if_pos (show bW none = -1 from rfl)]
        exact ⟨h2, rfl, a3⟩
      | some c =>
        rw [e] at a5
        by_cases w : bW (some c) = -1
        · exact absurd w (nI_m1 (bst_b e i (by omega)))
        · rw [if_neg w]
          unfold s_Race_order_60 s_Race_order_78
          rw [if_neg (by decide), ib_nI (by omega) (by decide), show ix (nI s) = s from nI_clamp (by omega), BK_o a5 (by rw [(bst_ok e).1, i]; exact hs)]
          exact ⟨h2, rfl, a3⟩
theorem C_begins {τ : Nat → TF} {K : Nat → Int32} {h : Hp} (x1 : Int32) (X : QX τ K h) : ∃ h1, s_Race_begins x1 h = some (aBegins x1 (tin τ K) K, h1) ∧ CQ (tin τ K) K h h1 := by
  obtain ⟨h1, h2, a1, a2, a3, a4, a5⟩ := p_lines X
  have e17 : hI h 1 17 = K 186 := StP_at X.1.1 (j := 186) (by decide) rfl
  unfold s_Race_begins aBegins
  rw [p_within, Option.bind_some, e17]
  by_cases y : wi x1 0 (K 186 - 1) = 0
  · rw [if_pos y, if_pos y]
    exact ⟨h, rfl, QX_CQ X (eqO_refl _ _) X⟩
  · rw [if_neg y, if_neg y, a1, Option.bind_some, a2, Option.bind_some]
    obtain ⟨s, n, hs, hn, rfl, en, i⟩ := ships_n X.1.2.1 (wi_n0 y)
    rw [BK_w a5, show ix (nI s) = s from nI_clamp (by omega)]
    cases e : bstC (td0 (tin τ K) (mk pF K)) (mk pS K) with
    | none =>
      rw [if_pos (show bW none = -1 from rfl)]
      exact ⟨h2, rfl, a3⟩
    | some c =>
      rw [e] at a5
      by_cases w : bW (some c) = -1
      · exact absurd w (nI_m1 (bst_b e i (by omega)))
      · rw [if_neg w]
        unfold s_Race_begins_57
        rw [ib_nI (by omega) (by decide), BK_b a5 ((bst_ok e).2 s (by rw [i]; exact hs))]
        exact ⟨h2, rfl, a3⟩
/-- the reference's -/
theorem p_lays {τ : Nat → TF} {K : Nat → Int32} {n : Nat} {h : Hp} (X : RX τ K h) (rc : RC (tin τ K) K n h) : ∃ h2, s_Mod_laysOrders h = some h2 ∧ RE (tin τ K) K n h h2 ∧ BKn 84 38 105 107 (bstC (td0 (tin τ K) (mk pF K)) (mk pS K)) h2 := by
  obtain ⟨m, hm, em, im⟩ := Rg_ships X.2.1
  obtain ⟨u, b1, b2, b3, b4, b5, b6⟩ := p_looks X rc
  have L : LX τ K u := ⟨b4, b6⟩
  have E1 : eqO sOr u (sI u 84 38 (-1)) := eqO_sI (eqO_refl _ _) (by decide)
  obtain ⟨h2, a1, a2, a3, a4, a5, a6⟩ := p_orders em hm m 10 [] 0 0 0 none (sI u 84 38 (-1)) (by omega) (Nat.zero_add _) (LX_or L E1) (PO_0 m) (fun i q e => by cases e) (show hI (sI u 84 38 (-1)) 84 38 = -1 by rw [hI_sI', if_pos ⟨rfl, rfl⟩]) (fun c e => by cases e)
  have e186 : ix (mk pS K 186) = m := by rw [ks_eq (Or.inr (Or.inr rfl))]; exact im
  have ef := fo_bst (td0 (tin τ K) (mk pF K)) (mk pS K)
  rw [e186] at ef
  rw [ef] at a5
  have E2 := eqO_trans E1 a2
  have M2 : m84 n38 u h2 := m84_trans (m84_sI (m84_refl _ _) (Or.inr (by decide))) a3
  refine ⟨h2, ?_, ⟨eqO_trans b2 (eqO_mono E2 sOr_sRf), m84_trans b3 (m84_mono M2 (fun k hk => ?_)), RC_k b5 (M2 1 (by decide)) (M2 28 (by decide)) (E2.2 97 (by decide)).1 (E2.2 99 (by decide)).1⟩, a5⟩
  · unfold s_Mod_laysOrders
    have a1' : s_Mod_orders 0 0 0 0 (sI u 84 38 (-1)) = some h2 := a1
    rw [b1, Option.bind_some, a1', Option.bind_some]
  · unfold n38
    by_cases z : k = 38
    · rw [z] at hk; exact absurd hk (by decide)
    · rw [decide_eq_false z]; rfl
theorem R_order {τ : Nat → TF} {K : Nat → Int32} {n : Nat} {h : Hp} (x1 : Int32) (X : RX τ K h) (rc : RC (tin τ K) K n h) : ∃ h2, s_Mod_order x1 h = some (aOrder x1 (tin τ K) K, h2) ∧ RE (tin τ K) K n h h2 := by
  obtain ⟨h2, a1, a2, a3⟩ := p_lays X rc
  unfold s_Mod_order aOrder
  rw [ib_some _ (by decide) (by decide), show ix 186 = 186 by decide, X.1, p_lies, Option.bind_some, wi_m1 _ _ (m1_ships X.2.1)]
  by_cases z : x1 = -1
  · rw [if_pos z, if_neg (show ¬ (1 : Int32) = 0 by decide), a1, Option.bind_some, if_pos z, if_pos z]
    unfold s_Mod_order_37 s_Mod_order_50
    rw [BK_w a3]
    exact ⟨h2, rfl, a2⟩
  · rw [if_neg z, if_neg z]
    by_cases y : wi x1 0 (K 186 - 1) = 0
    · rw [if_pos y, if_pos y]
      exact ⟨h, rfl, RE_refl rc⟩
    · rw [if_neg y, if_neg y, a1, Option.bind_some, if_neg z]
      obtain ⟨s, m, hs, hm, rfl, en, i⟩ := ships_n X.2.1 (wi_n0 y)
      unfold s_Mod_order_37 s_Mod_order_50
      rw [BK_w a3, show ix (nI s) = s from nI_clamp (by omega)]
      cases e : bstC (td0 (tin τ K) (mk pF K)) (mk pS K) with
      | none =>
        rw [if_pos (show bW none = -1 from rfl)]
        exact ⟨h2, rfl, a2⟩
      | some c =>
        rw [e] at a3
        by_cases w : bW (some c) = -1
        · exact absurd w (nI_m1 (bst_b e i (by omega)))
        · rw [if_neg w, ib_nI (by omega) (by decide), BK_o a3 (by rw [(bst_ok e).1, i]; exact hs)]
          exact ⟨h2, rfl, a2⟩
theorem R_begins {τ : Nat → TF} {K : Nat → Int32} {n : Nat} {h : Hp} (x1 : Int32) (X : RX τ K h) (rc : RC (tin τ K) K n h) : ∃ h2, s_Mod_begins x1 h = some (aBegins x1 (tin τ K) K, h2) ∧ RE (tin τ K) K n h h2 := by
  obtain ⟨h2, a1, a2, a3⟩ := p_lays X rc
  unfold s_Mod_begins aBegins
  rw [ib_some _ (by decide) (by decide), show ix 186 = 186 by decide, X.1, p_lies, Option.bind_some]
  by_cases y : wi x1 0 (K 186 - 1) = 0
  · rw [if_pos y, if_pos y]
    exact ⟨h, rfl, RE_refl rc⟩
  · rw [if_neg y, if_neg y, a1, Option.bind_some]
    obtain ⟨s, m, hs, hm, rfl, en, i⟩ := ships_n X.2.1 (wi_n0 y)
    unfold s_Mod_begins_42
    rw [BK_w a3, show ix (nI s) = s from nI_clamp (by omega)]
    cases e : bstC (td0 (tin τ K) (mk pF K)) (mk pS K) with
    | none =>
      rw [if_pos (show bW none = -1 from rfl)]
      exact ⟨h2, rfl, a2⟩
    | some c =>
      rw [e] at a3
      by_cases w : bW (some c) = -1
      · exact absurd w (nI_m1 (bst_b e i (by omega)))
      · rw [if_neg w, ib_nI (by omega) (by decide), BK_b a3 ((bst_ok e).2 s (by rw [i]; exact hs))]
        exact ⟨h2, rfl, a2⟩
theorem Q_order (n : Nat) (x1 : Int32) (h : Hp) (_ : n < 512) (hi : Inv n h) : ∃ h2, q_order x1 h = some h2 ∧ Inv (n + 1) h2 := ask hi (aOrder x1) (fun _ _ X => C_order x1 X) (fun _ _ _ _ X rc => R_order x1 X rc)
theorem Q_begins (n : Nat) (x1 : Int32) (h : Hp) (_ : n < 512) (hi : Inv n h) : ∃ h2, q_begins x1 h = some h2 ∧ Inv (n + 1) h2 := ask hi (aBegins x1) (fun _ _ X => C_begins x1 X) (fun _ _ _ _ X rc => R_begins x1 X rc)
