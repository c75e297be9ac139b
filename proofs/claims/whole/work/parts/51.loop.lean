/-! the law's loop, out of one statement a call -/
noncomputable def q_sea (x1 x2 x3 : Int32) (h : Hp) : Option Hp := (s_Race_sea x1 x2 x3 h).bind fun u => (s_Mod_sea x1 x2 x3 u.2).bind fun w => if u.1 = w.1 then some (w.2) else none
noncomputable def q_moon (x1 x2 x3 x4 : Int32) (h : Hp) : Option Hp := (s_Race_moon x1 x2 x3 x4 h).bind fun u => (s_Mod_moon x1 x2 x3 x4 u.2).bind fun w => if u.1 = w.1 then some (w.2) else none
noncomputable def q_terms (x1 x2 : Int32) (h : Hp) : Option Hp := (s_Race_terms x1 x2 h).bind fun u => (s_Mod_terms x1 x2 u.2).bind fun w => if u.1 = w.1 then some (w.2) else none
noncomputable def q_feed (x1 x2 x3 x4 x5 : Int32) (h : Hp) : Option Hp := (s_Race_feed x1 x2 x3 x4 x5 h).bind fun u => (s_Mod_feed x1 x2 x3 x4 x5 u.2).bind fun w => if u.1 = w.1 then some (w.2) else none
noncomputable def q_end (x1 : Int32) (h : Hp) : Option Hp := (s_Race_end x1 h).bind fun u => (s_Mod_end x1 u.2).bind fun w => if u.1 = w.1 then some (w.2) else none
noncomputable def q_row (h : Hp) : Option Hp := (s_Race_row h).bind fun u => (s_Mod_row u.2).bind fun w => if u.1 = w.1 then some (w.2) else none
noncomputable def q_foul (h : Hp) : Option Hp := (s_Race_foul h).bind fun u => (s_Mod_foul h).bind fun w => if u = w then some (h) else none
noncomputable def q_law (h : Hp) : Option Hp := (s_Race_law h).bind fun u => (s_Mod_law u.2).bind fun w => if u.1 = w.1 then some (w.2) else none
noncomputable def q_fault (h : Hp) : Option Hp := (s_Race_fault h).bind fun u => (s_Mod_fault h).bind fun w => if u = w then some (h) else none
noncomputable def q_force (x1 : Int32) (h : Hp) : Option Hp := (s_Race_force x1 h).bind fun u => (s_Mod_force x1 u.2).bind fun w => if u.1 = w.1 then some (w.2) else none
noncomputable def q_level (x1 x2 : Int32) (h : Hp) : Option Hp := (s_Race_level x1 x2 h).bind fun u => (s_Mod_level x1 x2 u.2).bind fun w => if u.1 = w then some (u.2) else none
noncomputable def q_flow (x1 : Int32) (h : Hp) : Option Hp := (s_Race_flow x1 h).bind fun u => (s_Mod_flow x1 u.2).bind fun w => if u.1 = w.1 then some (w.2) else none
noncomputable def q_kind (x1 x2 : Int32) (h : Hp) : Option Hp := (s_Race_kind x1 x2 h).bind fun u => (s_Mod_kind x1 x2 u.2).bind fun w => if u.1 = w.1 then some (w.2) else none
noncomputable def q_cell (x1 x2 x3 : Int32) (h : Hp) : Option Hp := (s_Race_cell x1 x2 x3 h).bind fun u => (s_Mod_cell x1 x2 x3 u.2).bind fun w => if u.1 = w.1 then some (w.2) else none
noncomputable def q_slack (x1 x2 : Int32) (h : Hp) : Option Hp := (s_Race_slack x1 x2 h).bind fun u => (s_Mod_slack x1 x2 u.2).bind fun w => if u.1 = w.1 then some (w.2) else none
noncomputable def q_late (x1 : Int32) (h : Hp) : Option Hp := (s_Race_late x1 h).bind fun u => (s_Mod_late x1 u.2).bind fun w => if u.1 = w.1 then some (w.2) else none
noncomputable def q_boat (x1 x2 : Int32) (h : Hp) : Option Hp := (s_Race_boat x1 x2 h).bind fun u => (s_Mod_boat x1 x2 u.2).bind fun w => if u.1 = w.1 then some (w.2) else none
noncomputable def q_soonest (x1 x2 x3 x4 : Int32) (h : Hp) : Option Hp := (s_Race_soonest x1 x2 x3 x4 h).bind fun u => (s_Mod_soonest x1 x2 x3 x4 u.2).bind fun w => if u.1 = w.1 then some (w.2) else none
noncomputable def q_way (x1 x2 x3 x4 x5 : Int32) (h : Hp) : Option Hp := (s_Race_way x1 x2 x3 x4 x5 h).bind fun u => (s_Mod_way x1 x2 x3 x4 x5 u.2).bind fun w => if u.1 = w.1 then some (w.2) else none
noncomputable def q_calmest (x1 x2 x3 x4 : Int32) (h : Hp) : Option Hp := (s_Race_calmest x1 x2 x3 x4 h).bind fun u => (s_Mod_calmest x1 x2 x3 x4 u.2).bind fun w => if u.1 = w.1 then some (w.2) else none
noncomputable def q_latest (x1 x2 x3 x4 : Int32) (h : Hp) : Option Hp := (s_Race_latest x1 x2 x3 x4 h).bind fun u => (s_Mod_latest x1 x2 x3 x4 u.2).bind fun w => if u.1 = w.1 then some (w.2) else none
noncomputable def q_move (x1 : Int32) (h : Hp) : Option Hp := (s_Race_move x1 h).bind fun u => (s_Mod_move x1 u.2).bind fun w => if u.1 = w.1 then some (w.2) else none
noncomputable def q_tear (h : Hp) : Option Hp := (s_Race_tear h).bind fun u => (s_Mod_tear u.2).bind fun w => if u.1 = w.1 then some (w.2) else none
noncomputable def q_done (x1 x2 x3 x4 : Int32) (h : Hp) : Option Hp := (s_Race_done x1 x2 x3 x4 h).bind fun u => (s_Mod_done x1 x2 x3 x4 u.2).bind fun w => if u.1 = w.1 then some (w.2) else none
noncomputable def q_margin (x1 x2 x3 : Int32) (h : Hp) : Option Hp := (s_Race_margin x1 x2 x3 h).bind fun u => (s_Mod_margin x1 x2 x3 u.2).bind fun w => if u.1 = w.1 then some (w.2) else none
noncomputable def q_ship (x1 x2 x3 : Int32) (h : Hp) : Option Hp := (s_Race_ship x1 x2 x3 h).bind fun u => (s_Mod_ship x1 x2 x3 u.2).bind fun w => if u.1 = w.1 then some (w.2) else none
noncomputable def q_order (x1 : Int32) (h : Hp) : Option Hp := (s_Race_order x1 h).bind fun u => (s_Mod_order x1 u.2).bind fun w => if u.1 = w.1 then some (w.2) else none
noncomputable def q_begins (x1 : Int32) (h : Hp) : Option Hp := (s_Race_begins x1 h).bind fun u => (s_Mod_begins x1 u.2).bind fun w => if u.1 = w.1 then some (w.2) else none
noncomputable def q_taken (x1 : Int32) (h : Hp) : Option Hp := (s_Race_taken x1 h).bind fun u => (s_Mod_taken x1 u.2).bind fun w => if lg_cmp u.1 w.1 = 0 then some (w.2) else none
noncomputable def q_most (x1 x2 : Int32) (h : Hp) : Option Hp := (s_Race_most x1 x2 h).bind fun u => (s_Mod_most x1 x2 u.2).bind fun w => if u.1 = w.1 then some (w.2) else none
noncomputable def q_cast (x1 x2 : Int32) (h : Hp) : Option Hp := (s_Race_cast x1 x2 h).bind fun u => (s_Mod_cast x1 x2 u.2).bind fun w => if u.1 = w.1 then some (w.2) else none
noncomputable def q_agree (x1 x2 : Int32) (h : Hp) : Option Hp := (s_Race_agree x1 x2 h).bind fun u => (s_Mod_agree x1 x2 u.2).bind fun w => if u.1 = w.1 then some (w.2) else none
noncomputable def q_tells (x1 : Int32) (h : Hp) : Option Hp := (s_Race_tells x1 h).bind fun u => (s_Mod_tells x1 u.2).bind fun w => if u.1 = w.1 then some (w.2) else none
noncomputable def q_right (x1 x2 : Int32) (h : Hp) : Option Hp := (s_Race_right x1 x2 h).bind fun u => (s_Mod_right x1 x2 u.2).bind fun w => if u.1 = w.1 then some (w.2) else none
noncomputable def q_mark (x1 : Int32) (h : Hp) : Option Hp := (s_Race_mark x1 h).bind fun u => (s_Mod_mark x1 u.2).bind fun w => if u.1 = w.1 then some (w.2) else none
noncomputable def q_lost (x1 x2 x3 x4 : Int32) (h : Hp) : Option Hp := (s_Race_lost x1 x2 x3 x4 h).bind fun u => (s_Mod_lost x1 x2 x3 x4 u.2).bind fun w => if u.1 = w.1 then some (w.2) else none
noncomputable def q_day (x1 : Int32) (h : Hp) : Option Hp := (s_Race_day x1 h).bind fun u => (s_Mod_day x1 u.2).bind fun w => if u.1 = w.1 then some (w.2) else none
noncomputable def q_drawn (x1 : Int32) (h : Hp) : Option Hp := (s_Race_drawn x1 h).bind fun u => (s_Mod_drawn x1 h).bind fun w => if u = w then some (h) else none
noncomputable def q_image (x1 : Int32) (h : Hp) : Option Hp := (s_Race_image x1 h).bind fun u => (s_Mod_image x1 u.2).bind fun w => if u.1 = w.1 then some (w.2) else none
noncomputable def q_back (x1 : Int32) (h : Hp) : Option Hp := (s_Race_back x1 h).bind fun u => (s_Mod_back x1 u.2).bind fun w => if u.1 = w.1 then some (w.2) else none
noncomputable def q_count (x1 : Int32) (h : Hp) : Option Hp := (s_Race_count x1 h).bind fun u => (s_Mod_count x1 h).bind fun w => if u = w then some (h) else none
noncomputable def q_status (h : Hp) : Option Hp := (s_Race_status h).bind fun u => (s_Mod_status h).bind fun w => if u = w then some (h) else none
def calls_ok (Inv : Nat → Hp → Prop) : Prop :=
  (∀ (n : Nat) (x1 x2 x3 : Int32) (h : Hp), n < 512 → Inv n h → ∃ h2, q_sea x1 x2 x3 h = some h2 ∧ Inv (n + 1) h2) ∧
  (∀ (n : Nat) (x1 x2 x3 x4 : Int32) (h : Hp), n < 512 → Inv n h → ∃ h2, q_moon x1 x2 x3 x4 h = some h2 ∧ Inv (n + 1) h2) ∧
  (∀ (n : Nat) (x1 x2 : Int32) (h : Hp), n < 512 → Inv n h → ∃ h2, q_terms x1 x2 h = some h2 ∧ Inv (n + 1) h2) ∧
  (∀ (n : Nat) (x1 x2 x3 x4 x5 : Int32) (h : Hp), n < 512 → Inv n h → ∃ h2, q_feed x1 x2 x3 x4 x5 h = some h2 ∧ Inv (n + 1) h2) ∧
  (∀ (n : Nat) (x1 : Int32) (h : Hp), n < 512 → Inv n h → ∃ h2, q_end x1 h = some h2 ∧ Inv (n + 1) h2) ∧
  (∀ (n : Nat) (h : Hp), n < 512 → Inv n h → ∃ h2, q_row h = some h2 ∧ Inv (n + 1) h2) ∧
  (∀ (n : Nat) (h : Hp), n < 512 → Inv n h → ∃ h2, q_foul h = some h2 ∧ Inv (n + 1) h2) ∧
  (∀ (n : Nat) (h : Hp), n < 512 → Inv n h → ∃ h2, q_law h = some h2 ∧ Inv (n + 1) h2) ∧
  (∀ (n : Nat) (h : Hp), n < 512 → Inv n h → ∃ h2, q_fault h = some h2 ∧ Inv (n + 1) h2) ∧
  (∀ (n : Nat) (x1 : Int32) (h : Hp), n < 512 → Inv n h → ∃ h2, q_force x1 h = some h2 ∧ Inv (n + 1) h2) ∧
  (∀ (n : Nat) (x1 x2 : Int32) (h : Hp), n < 512 → Inv n h → ∃ h2, q_level x1 x2 h = some h2 ∧ Inv (n + 1) h2) ∧
  (∀ (n : Nat) (x1 : Int32) (h : Hp), n < 512 → Inv n h → ∃ h2, q_flow x1 h = some h2 ∧ Inv (n + 1) h2) ∧
  (∀ (n : Nat) (x1 x2 : Int32) (h : Hp), n < 512 → Inv n h → ∃ h2, q_kind x1 x2 h = some h2 ∧ Inv (n + 1) h2) ∧
  (∀ (n : Nat) (x1 x2 x3 : Int32) (h : Hp), n < 512 → Inv n h → ∃ h2, q_cell x1 x2 x3 h = some h2 ∧ Inv (n + 1) h2) ∧
  (∀ (n : Nat) (x1 x2 : Int32) (h : Hp), n < 512 → Inv n h → ∃ h2, q_slack x1 x2 h = some h2 ∧ Inv (n + 1) h2) ∧
  (∀ (n : Nat) (x1 : Int32) (h : Hp), n < 512 → Inv n h → ∃ h2, q_late x1 h = some h2 ∧ Inv (n + 1) h2) ∧
  (∀ (n : Nat) (x1 x2 : Int32) (h : Hp), n < 512 → Inv n h → ∃ h2, q_boat x1 x2 h = some h2 ∧ Inv (n + 1) h2) ∧
  (∀ (n : Nat) (x1 x2 x3 x4 : Int32) (h : Hp), n < 512 → Inv n h → ∃ h2, q_soonest x1 x2 x3 x4 h = some h2 ∧ Inv (n + 1) h2) ∧
  (∀ (n : Nat) (x1 x2 x3 x4 x5 : Int32) (h : Hp), n < 512 → Inv n h → ∃ h2, q_way x1 x2 x3 x4 x5 h = some h2 ∧ Inv (n + 1) h2) ∧
  (∀ (n : Nat) (x1 x2 x3 x4 : Int32) (h : Hp), n < 512 → Inv n h → ∃ h2, q_calmest x1 x2 x3 x4 h = some h2 ∧ Inv (n + 1) h2) ∧
  (∀ (n : Nat) (x1 x2 x3 x4 : Int32) (h : Hp), n < 512 → Inv n h → ∃ h2, q_latest x1 x2 x3 x4 h = some h2 ∧ Inv (n + 1) h2) ∧
  (∀ (n : Nat) (x1 : Int32) (h : Hp), n < 512 → Inv n h → ∃ h2, q_move x1 h = some h2 ∧ Inv (n + 1) h2) ∧
  (∀ (n : Nat) (h : Hp), n < 512 → Inv n h → ∃ h2, q_tear h = some h2 ∧ Inv (n + 1) h2) ∧
  (∀ (n : Nat) (x1 x2 x3 x4 : Int32) (h : Hp), n < 512 → Inv n h → ∃ h2, q_done x1 x2 x3 x4 h = some h2 ∧ Inv (n + 1) h2) ∧
  (∀ (n : Nat) (x1 x2 x3 : Int32) (h : Hp), n < 512 → Inv n h → ∃ h2, q_margin x1 x2 x3 h = some h2 ∧ Inv (n + 1) h2) ∧
  (∀ (n : Nat) (x1 x2 x3 : Int32) (h : Hp), n < 512 → Inv n h → ∃ h2, q_ship x1 x2 x3 h = some h2 ∧ Inv (n + 1) h2) ∧
  (∀ (n : Nat) (x1 : Int32) (h : Hp), n < 512 → Inv n h → ∃ h2, q_order x1 h = some h2 ∧ Inv (n + 1) h2) ∧
  (∀ (n : Nat) (x1 : Int32) (h : Hp), n < 512 → Inv n h → ∃ h2, q_begins x1 h = some h2 ∧ Inv (n + 1) h2) ∧
  (∀ (n : Nat) (x1 : Int32) (h : Hp), n < 512 → Inv n h → ∃ h2, q_taken x1 h = some h2 ∧ Inv (n + 1) h2) ∧
  (∀ (n : Nat) (x1 x2 : Int32) (h : Hp), n < 512 → Inv n h → ∃ h2, q_most x1 x2 h = some h2 ∧ Inv (n + 1) h2) ∧
  (∀ (n : Nat) (x1 x2 : Int32) (h : Hp), n < 512 → Inv n h → ∃ h2, q_cast x1 x2 h = some h2 ∧ Inv (n + 1) h2) ∧
  (∀ (n : Nat) (x1 x2 : Int32) (h : Hp), n < 512 → Inv n h → ∃ h2, q_agree x1 x2 h = some h2 ∧ Inv (n + 1) h2) ∧
  (∀ (n : Nat) (x1 : Int32) (h : Hp), n < 512 → Inv n h → ∃ h2, q_tells x1 h = some h2 ∧ Inv (n + 1) h2) ∧
  (∀ (n : Nat) (x1 x2 : Int32) (h : Hp), n < 512 → Inv n h → ∃ h2, q_right x1 x2 h = some h2 ∧ Inv (n + 1) h2) ∧
  (∀ (n : Nat) (x1 : Int32) (h : Hp), n < 512 → Inv n h → ∃ h2, q_mark x1 h = some h2 ∧ Inv (n + 1) h2) ∧
  (∀ (n : Nat) (x1 x2 x3 x4 : Int32) (h : Hp), n < 512 → Inv n h → ∃ h2, q_lost x1 x2 x3 x4 h = some h2 ∧ Inv (n + 1) h2) ∧
  (∀ (n : Nat) (x1 : Int32) (h : Hp), n < 512 → Inv n h → ∃ h2, q_day x1 h = some h2 ∧ Inv (n + 1) h2) ∧
  (∀ (n : Nat) (x1 : Int32) (h : Hp), n < 512 → Inv n h → ∃ h2, q_drawn x1 h = some h2 ∧ Inv (n + 1) h2) ∧
  (∀ (n : Nat) (x1 : Int32) (h : Hp), n < 512 → Inv n h → ∃ h2, q_image x1 h = some h2 ∧ Inv (n + 1) h2) ∧
  (∀ (n : Nat) (x1 : Int32) (h : Hp), n < 512 → Inv n h → ∃ h2, q_back x1 h = some h2 ∧ Inv (n + 1) h2) ∧
  (∀ (n : Nat) (x1 : Int32) (h : Hp), n < 512 → Inv n h → ∃ h2, q_count x1 h = some h2 ∧ Inv (n + 1) h2) ∧
  (∀ (n : Nat) (h : Hp), n < 512 → Inv n h → ∃ h2, q_status h = some h2 ∧ Inv (n + 1) h2)
theorem ite_ex {α : Type} {β : Type} {c : Prop} [Decidable c] {A B : Option α} {f : β → α} {P : β → Prop} (ht : c → ∃ y, A = some (f y) ∧ P y) (hf : ¬ c → ∃ y, B = some (f y) ∧ P y) : ∃ y, (if c then A else B) = some (f y) ∧ P y := by
  split
  · rename_i q
    exact ht q
  · rename_i q
    exact hf q
theorem lp_cond {sn k : Nat} (h1 : sn ≤ 3072) (h2 : k ≤ 4000) : (nI sn - 6 < nI k) ↔ ((sn : Int) - 6 < (k : Int)) := by
  have e6 : (6 : Int32).toInt = 6 := by decide
  rw [Int32.lt_iff_toInt_lt, Int32.toInt_sub, nI_toInt (by omega), nI_toInt (by omega), e6, Int.bmod_eq_of_le (by omega) (by omega)]
theorem lp_ib {α : Type} {n sn : Nat} (c : Nat) {cI : Int32} (hc : nI c = cI) (hc6 : c < 6) (h : 6 * n + 6 ≤ sn) (hs : sn ≤ 3072) (F : Option α) : ib (nI (6 * n) + cI) sn F = F := by
  subst hc
  rw [nI_add]
  exact ib_some F (by rw [Int32.not_lt]; exact nI_le (a := 0) (Nat.zero_le _) (by omega)) (by rw [ix, nI_clamp (by omega)]; omega)
theorem lp_ib0 {α : Type} {n sn : Nat} (h : 6 * n + 6 ≤ sn) (hs : sn ≤ 3072) (F : Option α) : ib (nI (6 * n)) sn F = F :=
  ib_some F (by rw [Int32.not_lt]; exact nI_le (a := 0) (Nat.zero_le _) (by omega)) (by rw [ix, nI_clamp (by omega)]; omega)
theorem lp_body {Inv : Nat → Hp → Prop} (H : calls_ok Inv) (Hm : ∀ n h, Inv n h → Inv (n + 1) h) {sx : Nat → Int32} {sn n : Nat} {h : Hp} (hs : sn ≤ 3072) (hn : 6 * n + 6 ≤ sn) (hi : Inv n h) : ∃ h2, s_Law_loop_18 sx sn (nI (6 * n)) h = some (.inl (nI (6 * n) + 6, h2)) ∧ Inv (n + 1) h2 := by
  have hlt : n < 512 := by omega
  have b1 : ∀ {α : Type} (F : Option α), ib (nI (6 * n) + 1) sn F = F := lp_ib 1 (by decide) (by omega) hn hs
  have b2 : ∀ {α : Type} (F : Option α), ib (nI (6 * n) + 2) sn F = F := lp_ib 2 (by decide) (by omega) hn hs
  have b3 : ∀ {α : Type} (F : Option α), ib (nI (6 * n) + 3) sn F = F := lp_ib 3 (by decide) (by omega) hn hs
  have b4 : ∀ {α : Type} (F : Option α), ib (nI (6 * n) + 4) sn F = F := lp_ib 4 (by decide) (by omega) hn hs
  have b5 : ∀ {α : Type} (F : Option α), ib (nI (6 * n) + 5) sn F = F := lp_ib 5 (by decide) (by omega) hn hs
  obtain ⟨H0, H1, H2, H3, H4, H5, H6, H7, H8, H9, H10, H11, H12, H13, H14, H15, H16, H17, H18, H19, H20, H21, H22, H23, H24, H25, H26, H27, H28, H29, H30, H31, H32, H33, H34, H35, H36, H37, H38, H39, H40, H41⟩ := H
  unfold s_Law_loop_18
  rw [if_neg (by rw [lp_cond hs (by omega)]; omega), lp_ib0 hn hs]
  simp only [b1, b2, b3, b4, b5, s_Law_loop_1553]
  refine ite_ex (fun _ => ?_) (fun _ => ?_)
  · obtain ⟨h2, e, hi2⟩ := H0 n (sx (ix (nI (6 * n) + 1))) (sx (ix (nI (6 * n) + 2))) (sx (ix (nI (6 * n) + 3))) h hlt hi
    unfold q_sea at e
    obtain ⟨u, e1, e⟩ := bind_inv e
    obtain ⟨w, e2, e⟩ := bind_inv e
    rcases if_inv e with ⟨c, e⟩ | ⟨-, e⟩
    · cases e
      exact ⟨_, by rw [e1, Option.bind_some, e2, Option.bind_some, if_pos c], hi2⟩
    · cases e
  refine ite_ex (fun _ => ?_) (fun _ => ?_)
  · obtain ⟨h2, e, hi2⟩ := H1 n (sx (ix (nI (6 * n) + 1))) (sx (ix (nI (6 * n) + 2))) (sx (ix (nI (6 * n) + 3))) (sx (ix (nI (6 * n) + 4))) h hlt hi
    unfold q_moon at e
    obtain ⟨u, e1, e⟩ := bind_inv e
    obtain ⟨w, e2, e⟩ := bind_inv e
    rcases if_inv e with ⟨c, e⟩ | ⟨-, e⟩
    · cases e
      exact ⟨_, by rw [e1, Option.bind_some, e2, Option.bind_some, if_pos c], hi2⟩
    · cases e
  refine ite_ex (fun _ => ?_) (fun _ => ?_)
  · obtain ⟨h2, e, hi2⟩ := H2 n (sx (ix (nI (6 * n) + 1))) (sx (ix (nI (6 * n) + 2))) h hlt hi
    unfold q_terms at e
    obtain ⟨u, e1, e⟩ := bind_inv e
    obtain ⟨w, e2, e⟩ := bind_inv e
    rcases if_inv e with ⟨c, e⟩ | ⟨-, e⟩
    · cases e
      exact ⟨_, by rw [e1, Option.bind_some, e2, Option.bind_some, if_pos c], hi2⟩
    · cases e
  refine ite_ex (fun _ => ?_) (fun _ => ?_)
  · obtain ⟨h2, e, hi2⟩ := H3 n (sx (ix (nI (6 * n) + 1))) (sx (ix (nI (6 * n) + 2))) (sx (ix (nI (6 * n) + 3))) (sx (ix (nI (6 * n) + 4))) (sx (ix (nI (6 * n) + 5))) h hlt hi
    unfold q_feed at e
    obtain ⟨u, e1, e⟩ := bind_inv e
    obtain ⟨w, e2, e⟩ := bind_inv e
    rcases if_inv e with ⟨c, e⟩ | ⟨-, e⟩
    · cases e
      exact ⟨_, by rw [e1, Option.bind_some, e2, Option.bind_some, if_pos c], hi2⟩
    · cases e
  refine ite_ex (fun _ => ?_) (fun _ => ?_)
  · obtain ⟨h2, e, hi2⟩ := H4 n (sx (ix (nI (6 * n) + 1))) h hlt hi
    unfold q_end at e
    obtain ⟨u, e1, e⟩ := bind_inv e
    obtain ⟨w, e2, e⟩ := bind_inv e
    rcases if_inv e with ⟨c, e⟩ | ⟨-, e⟩
    · cases e
      exact ⟨_, by rw [e1, Option.bind_some, e2, Option.bind_some, if_pos c], hi2⟩
    · cases e
  refine ite_ex (fun _ => ?_) (fun _ => ?_)
  · obtain ⟨h2, e, hi2⟩ := H5 n h hlt hi
    unfold q_row at e
    obtain ⟨u, e1, e⟩ := bind_inv e
    obtain ⟨w, e2, e⟩ := bind_inv e
    rcases if_inv e with ⟨c, e⟩ | ⟨-, e⟩
    · cases e
      exact ⟨_, by rw [e1, Option.bind_some, e2, Option.bind_some, if_pos c], hi2⟩
    · cases e
  refine ite_ex (fun _ => ?_) (fun _ => ?_)
  · obtain ⟨h2, e, hi2⟩ := H6 n h hlt hi
    unfold q_foul at e
    obtain ⟨u, e1, e⟩ := bind_inv e
    obtain ⟨w, e2, e⟩ := bind_inv e
    rcases if_inv e with ⟨c, e⟩ | ⟨-, e⟩
    · cases e
      exact ⟨_, by rw [e1, Option.bind_some, e2, Option.bind_some, if_pos c], hi2⟩
    · cases e
  refine ite_ex (fun _ => ?_) (fun _ => ?_)
  · obtain ⟨h2, e, hi2⟩ := H7 n h hlt hi
    unfold q_law at e
    obtain ⟨u, e1, e⟩ := bind_inv e
    obtain ⟨w, e2, e⟩ := bind_inv e
    rcases if_inv e with ⟨c, e⟩ | ⟨-, e⟩
    · cases e
      exact ⟨_, by rw [e1, Option.bind_some, e2, Option.bind_some, if_pos c], hi2⟩
    · cases e
  refine ite_ex (fun _ => ?_) (fun _ => ?_)
  · obtain ⟨h2, e, hi2⟩ := H8 n h hlt hi
    unfold q_fault at e
    obtain ⟨u, e1, e⟩ := bind_inv e
    obtain ⟨w, e2, e⟩ := bind_inv e
    rcases if_inv e with ⟨c, e⟩ | ⟨-, e⟩
    · cases e
      exact ⟨_, by rw [e1, Option.bind_some, e2, Option.bind_some, if_pos c], hi2⟩
    · cases e
  refine ite_ex (fun _ => ?_) (fun _ => ?_)
  · obtain ⟨h2, e, hi2⟩ := H9 n (sx (ix (nI (6 * n) + 1))) h hlt hi
    unfold q_force at e
    obtain ⟨u, e1, e⟩ := bind_inv e
    obtain ⟨w, e2, e⟩ := bind_inv e
    rcases if_inv e with ⟨c, e⟩ | ⟨-, e⟩
    · cases e
      exact ⟨_, by rw [e1, Option.bind_some, e2, Option.bind_some, if_pos c], hi2⟩
    · cases e
  refine ite_ex (fun _ => ?_) (fun _ => ?_)
  · obtain ⟨h2, e, hi2⟩ := H10 n (sx (ix (nI (6 * n) + 1))) (sx (ix (nI (6 * n) + 2))) h hlt hi
    unfold q_level at e
    obtain ⟨u, e1, e⟩ := bind_inv e
    obtain ⟨w, e2, e⟩ := bind_inv e
    rcases if_inv e with ⟨c, e⟩ | ⟨-, e⟩
    · cases e
      exact ⟨_, by rw [e1, Option.bind_some, e2, Option.bind_some, if_pos c], hi2⟩
    · cases e
  refine ite_ex (fun _ => ?_) (fun _ => ?_)
  · obtain ⟨h2, e, hi2⟩ := H11 n (sx (ix (nI (6 * n) + 1))) h hlt hi
    unfold q_flow at e
    obtain ⟨u, e1, e⟩ := bind_inv e
    obtain ⟨w, e2, e⟩ := bind_inv e
    rcases if_inv e with ⟨c, e⟩ | ⟨-, e⟩
    · cases e
      exact ⟨_, by rw [e1, Option.bind_some, e2, Option.bind_some, if_pos c], hi2⟩
    · cases e
  refine ite_ex (fun _ => ?_) (fun _ => ?_)
  · obtain ⟨h2, e, hi2⟩ := H12 n (sx (ix (nI (6 * n) + 1))) (sx (ix (nI (6 * n) + 2))) h hlt hi
    unfold q_kind at e
    obtain ⟨u, e1, e⟩ := bind_inv e
    obtain ⟨w, e2, e⟩ := bind_inv e
    rcases if_inv e with ⟨c, e⟩ | ⟨-, e⟩
    · cases e
      exact ⟨_, by rw [e1, Option.bind_some, e2, Option.bind_some, if_pos c], hi2⟩
    · cases e
  refine ite_ex (fun _ => ?_) (fun _ => ?_)
  · obtain ⟨h2, e, hi2⟩ := H13 n (sx (ix (nI (6 * n) + 1))) (sx (ix (nI (6 * n) + 2))) (sx (ix (nI (6 * n) + 3))) h hlt hi
    unfold q_cell at e
    obtain ⟨u, e1, e⟩ := bind_inv e
    obtain ⟨w, e2, e⟩ := bind_inv e
    rcases if_inv e with ⟨c, e⟩ | ⟨-, e⟩
    · cases e
      exact ⟨_, by rw [e1, Option.bind_some, e2, Option.bind_some, if_pos c], hi2⟩
    · cases e
  refine ite_ex (fun _ => ?_) (fun _ => ?_)
  · obtain ⟨h2, e, hi2⟩ := H14 n (sx (ix (nI (6 * n) + 1))) (sx (ix (nI (6 * n) + 2))) h hlt hi
    unfold q_slack at e
    obtain ⟨u, e1, e⟩ := bind_inv e
    obtain ⟨w, e2, e⟩ := bind_inv e
    rcases if_inv e with ⟨c, e⟩ | ⟨-, e⟩
    · cases e
      exact ⟨_, by rw [e1, Option.bind_some, e2, Option.bind_some, if_pos c], hi2⟩
    · cases e
  refine ite_ex (fun _ => ?_) (fun _ => ?_)
  · obtain ⟨h2, e, hi2⟩ := H15 n (sx (ix (nI (6 * n) + 1))) h hlt hi
    unfold q_late at e
    obtain ⟨u, e1, e⟩ := bind_inv e
    obtain ⟨w, e2, e⟩ := bind_inv e
    rcases if_inv e with ⟨c, e⟩ | ⟨-, e⟩
    · cases e
      exact ⟨_, by rw [e1, Option.bind_some, e2, Option.bind_some, if_pos c], hi2⟩
    · cases e
  refine ite_ex (fun _ => ?_) (fun _ => ?_)
  · obtain ⟨h2, e, hi2⟩ := H16 n (sx (ix (nI (6 * n) + 1))) (sx (ix (nI (6 * n) + 2))) h hlt hi
    unfold q_boat at e
    obtain ⟨u, e1, e⟩ := bind_inv e
    obtain ⟨w, e2, e⟩ := bind_inv e
    rcases if_inv e with ⟨c, e⟩ | ⟨-, e⟩
    · cases e
      exact ⟨_, by rw [e1, Option.bind_some, e2, Option.bind_some, if_pos c], hi2⟩
    · cases e
  refine ite_ex (fun _ => ?_) (fun _ => ?_)
  · obtain ⟨h2, e, hi2⟩ := H17 n (sx (ix (nI (6 * n) + 1))) (sx (ix (nI (6 * n) + 2))) (sx (ix (nI (6 * n) + 3))) (sx (ix (nI (6 * n) + 4))) h hlt hi
    unfold q_soonest at e
    obtain ⟨u, e1, e⟩ := bind_inv e
    obtain ⟨w, e2, e⟩ := bind_inv e
    rcases if_inv e with ⟨c, e⟩ | ⟨-, e⟩
    · cases e
      exact ⟨_, by rw [e1, Option.bind_some, e2, Option.bind_some, if_pos c], hi2⟩
    · cases e
  refine ite_ex (fun _ => ?_) (fun _ => ?_)
  · obtain ⟨h2, e, hi2⟩ := H18 n (sx (ix (nI (6 * n) + 1))) (sx (ix (nI (6 * n) + 2))) (sx (ix (nI (6 * n) + 3))) (sx (ix (nI (6 * n) + 4))) (sx (ix (nI (6 * n) + 5))) h hlt hi
    unfold q_way at e
    obtain ⟨u, e1, e⟩ := bind_inv e
    obtain ⟨w, e2, e⟩ := bind_inv e
    rcases if_inv e with ⟨c, e⟩ | ⟨-, e⟩
    · cases e
      exact ⟨_, by rw [e1, Option.bind_some, e2, Option.bind_some, if_pos c], hi2⟩
    · cases e
  refine ite_ex (fun _ => ?_) (fun _ => ?_)
  · obtain ⟨h2, e, hi2⟩ := H19 n (sx (ix (nI (6 * n) + 1))) (sx (ix (nI (6 * n) + 2))) (sx (ix (nI (6 * n) + 3))) (sx (ix (nI (6 * n) + 4))) h hlt hi
    unfold q_calmest at e
    obtain ⟨u, e1, e⟩ := bind_inv e
    obtain ⟨w, e2, e⟩ := bind_inv e
    rcases if_inv e with ⟨c, e⟩ | ⟨-, e⟩
    · cases e
      exact ⟨_, by rw [e1, Option.bind_some, e2, Option.bind_some, if_pos c], hi2⟩
    · cases e
  refine ite_ex (fun _ => ?_) (fun _ => ?_)
  · obtain ⟨h2, e, hi2⟩ := H20 n (sx (ix (nI (6 * n) + 1))) (sx (ix (nI (6 * n) + 2))) (sx (ix (nI (6 * n) + 3))) (sx (ix (nI (6 * n) + 4))) h hlt hi
    unfold q_latest at e
    obtain ⟨u, e1, e⟩ := bind_inv e
    obtain ⟨w, e2, e⟩ := bind_inv e
    rcases if_inv e with ⟨c, e⟩ | ⟨-, e⟩
    · cases e
      exact ⟨_, by rw [e1, Option.bind_some, e2, Option.bind_some, if_pos c], hi2⟩
    · cases e
  refine ite_ex (fun _ => ?_) (fun _ => ?_)
  · obtain ⟨h2, e, hi2⟩ := H21 n (sx (ix (nI (6 * n) + 1))) h hlt hi
    unfold q_move at e
    obtain ⟨u, e1, e⟩ := bind_inv e
    obtain ⟨w, e2, e⟩ := bind_inv e
    rcases if_inv e with ⟨c, e⟩ | ⟨-, e⟩
    · cases e
      exact ⟨_, by rw [e1, Option.bind_some, e2, Option.bind_some, if_pos c], hi2⟩
    · cases e
  refine ite_ex (fun _ => ?_) (fun _ => ?_)
  · obtain ⟨h2, e, hi2⟩ := H22 n h hlt hi
    unfold q_tear at e
    obtain ⟨u, e1, e⟩ := bind_inv e
    obtain ⟨w, e2, e⟩ := bind_inv e
    rcases if_inv e with ⟨c, e⟩ | ⟨-, e⟩
    · cases e
      exact ⟨_, by rw [e1, Option.bind_some, e2, Option.bind_some, if_pos c], hi2⟩
    · cases e
  refine ite_ex (fun _ => ?_) (fun _ => ?_)
  · obtain ⟨h2, e, hi2⟩ := H23 n (sx (ix (nI (6 * n) + 1))) (sx (ix (nI (6 * n) + 2))) (sx (ix (nI (6 * n) + 3))) (sx (ix (nI (6 * n) + 4))) h hlt hi
    unfold q_done at e
    obtain ⟨u, e1, e⟩ := bind_inv e
    obtain ⟨w, e2, e⟩ := bind_inv e
    rcases if_inv e with ⟨c, e⟩ | ⟨-, e⟩
    · cases e
      exact ⟨_, by rw [e1, Option.bind_some, e2, Option.bind_some, if_pos c], hi2⟩
    · cases e
  refine ite_ex (fun _ => ?_) (fun _ => ?_)
  · obtain ⟨h2, e, hi2⟩ := H24 n (sx (ix (nI (6 * n) + 1))) (sx (ix (nI (6 * n) + 2))) (sx (ix (nI (6 * n) + 3))) h hlt hi
    unfold q_margin at e
    obtain ⟨u, e1, e⟩ := bind_inv e
    obtain ⟨w, e2, e⟩ := bind_inv e
    rcases if_inv e with ⟨c, e⟩ | ⟨-, e⟩
    · cases e
      exact ⟨_, by rw [e1, Option.bind_some, e2, Option.bind_some, if_pos c], hi2⟩
    · cases e
  refine ite_ex (fun _ => ?_) (fun _ => ?_)
  · obtain ⟨h2, e, hi2⟩ := H25 n (sx (ix (nI (6 * n) + 1))) (sx (ix (nI (6 * n) + 2))) (sx (ix (nI (6 * n) + 3))) h hlt hi
    unfold q_ship at e
    obtain ⟨u, e1, e⟩ := bind_inv e
    obtain ⟨w, e2, e⟩ := bind_inv e
    rcases if_inv e with ⟨c, e⟩ | ⟨-, e⟩
    · cases e
      exact ⟨_, by rw [e1, Option.bind_some, e2, Option.bind_some, if_pos c], hi2⟩
    · cases e
  refine ite_ex (fun _ => ?_) (fun _ => ?_)
  · obtain ⟨h2, e, hi2⟩ := H26 n (sx (ix (nI (6 * n) + 1))) h hlt hi
    unfold q_order at e
    obtain ⟨u, e1, e⟩ := bind_inv e
    obtain ⟨w, e2, e⟩ := bind_inv e
    rcases if_inv e with ⟨c, e⟩ | ⟨-, e⟩
    · cases e
      exact ⟨_, by rw [e1, Option.bind_some, e2, Option.bind_some, if_pos c], hi2⟩
    · cases e
  refine ite_ex (fun _ => ?_) (fun _ => ?_)
  · obtain ⟨h2, e, hi2⟩ := H27 n (sx (ix (nI (6 * n) + 1))) h hlt hi
    unfold q_begins at e
    obtain ⟨u, e1, e⟩ := bind_inv e
    obtain ⟨w, e2, e⟩ := bind_inv e
    rcases if_inv e with ⟨c, e⟩ | ⟨-, e⟩
    · cases e
      exact ⟨_, by rw [e1, Option.bind_some, e2, Option.bind_some, if_pos c], hi2⟩
    · cases e
  refine ite_ex (fun _ => ?_) (fun _ => ?_)
  · obtain ⟨h2, e, hi2⟩ := H28 n (sx (ix (nI (6 * n) + 1))) h hlt hi
    unfold q_taken at e
    obtain ⟨u, e1, e⟩ := bind_inv e
    obtain ⟨w, e2, e⟩ := bind_inv e
    rcases if_inv e with ⟨c, e⟩ | ⟨-, e⟩
    · cases e
      exact ⟨_, by rw [e1, Option.bind_some, e2, Option.bind_some, if_pos c], hi2⟩
    · cases e
  refine ite_ex (fun _ => ?_) (fun _ => ?_)
  · obtain ⟨h2, e, hi2⟩ := H29 n (sx (ix (nI (6 * n) + 1))) (sx (ix (nI (6 * n) + 2))) h hlt hi
    unfold q_most at e
    obtain ⟨u, e1, e⟩ := bind_inv e
    obtain ⟨w, e2, e⟩ := bind_inv e
    rcases if_inv e with ⟨c, e⟩ | ⟨-, e⟩
    · cases e
      exact ⟨_, by rw [e1, Option.bind_some, e2, Option.bind_some, if_pos c], hi2⟩
    · cases e
  refine ite_ex (fun _ => ?_) (fun _ => ?_)
  · obtain ⟨h2, e, hi2⟩ := H30 n (sx (ix (nI (6 * n) + 1))) (sx (ix (nI (6 * n) + 2))) h hlt hi
    unfold q_cast at e
    obtain ⟨u, e1, e⟩ := bind_inv e
    obtain ⟨w, e2, e⟩ := bind_inv e
    rcases if_inv e with ⟨c, e⟩ | ⟨-, e⟩
    · cases e
      exact ⟨_, by rw [e1, Option.bind_some, e2, Option.bind_some, if_pos c], hi2⟩
    · cases e
  refine ite_ex (fun _ => ?_) (fun _ => ?_)
  · obtain ⟨h2, e, hi2⟩ := H31 n (sx (ix (nI (6 * n) + 1))) (sx (ix (nI (6 * n) + 2))) h hlt hi
    unfold q_agree at e
    obtain ⟨u, e1, e⟩ := bind_inv e
    obtain ⟨w, e2, e⟩ := bind_inv e
    rcases if_inv e with ⟨c, e⟩ | ⟨-, e⟩
    · cases e
      exact ⟨_, by rw [e1, Option.bind_some, e2, Option.bind_some, if_pos c], hi2⟩
    · cases e
  refine ite_ex (fun _ => ?_) (fun _ => ?_)
  · obtain ⟨h2, e, hi2⟩ := H32 n (sx (ix (nI (6 * n) + 1))) h hlt hi
    unfold q_tells at e
    obtain ⟨u, e1, e⟩ := bind_inv e
    obtain ⟨w, e2, e⟩ := bind_inv e
    rcases if_inv e with ⟨c, e⟩ | ⟨-, e⟩
    · cases e
      exact ⟨_, by rw [e1, Option.bind_some, e2, Option.bind_some, if_pos c], hi2⟩
    · cases e
  refine ite_ex (fun _ => ?_) (fun _ => ?_)
  · obtain ⟨h2, e, hi2⟩ := H33 n (sx (ix (nI (6 * n) + 1))) (sx (ix (nI (6 * n) + 2))) h hlt hi
    unfold q_right at e
    obtain ⟨u, e1, e⟩ := bind_inv e
    obtain ⟨w, e2, e⟩ := bind_inv e
    rcases if_inv e with ⟨c, e⟩ | ⟨-, e⟩
    · cases e
      exact ⟨_, by rw [e1, Option.bind_some, e2, Option.bind_some, if_pos c], hi2⟩
    · cases e
  refine ite_ex (fun _ => ?_) (fun _ => ?_)
  · obtain ⟨h2, e, hi2⟩ := H34 n (sx (ix (nI (6 * n) + 1))) h hlt hi
    unfold q_mark at e
    obtain ⟨u, e1, e⟩ := bind_inv e
    obtain ⟨w, e2, e⟩ := bind_inv e
    rcases if_inv e with ⟨c, e⟩ | ⟨-, e⟩
    · cases e
      exact ⟨_, by rw [e1, Option.bind_some, e2, Option.bind_some, if_pos c], hi2⟩
    · cases e
  refine ite_ex (fun _ => ?_) (fun _ => ?_)
  · obtain ⟨h2, e, hi2⟩ := H35 n (sx (ix (nI (6 * n) + 1))) (sx (ix (nI (6 * n) + 2))) (sx (ix (nI (6 * n) + 3))) (sx (ix (nI (6 * n) + 4))) h hlt hi
    unfold q_lost at e
    obtain ⟨u, e1, e⟩ := bind_inv e
    obtain ⟨w, e2, e⟩ := bind_inv e
    rcases if_inv e with ⟨c, e⟩ | ⟨-, e⟩
    · cases e
      exact ⟨_, by rw [e1, Option.bind_some, e2, Option.bind_some, if_pos c], hi2⟩
    · cases e
  refine ite_ex (fun _ => ?_) (fun _ => ?_)
  · obtain ⟨h2, e, hi2⟩ := H36 n (sx (ix (nI (6 * n) + 1))) h hlt hi
    unfold q_day at e
    obtain ⟨u, e1, e⟩ := bind_inv e
    obtain ⟨w, e2, e⟩ := bind_inv e
    rcases if_inv e with ⟨c, e⟩ | ⟨-, e⟩
    · cases e
      exact ⟨_, by rw [e1, Option.bind_some, e2, Option.bind_some, if_pos c], hi2⟩
    · cases e
  refine ite_ex (fun _ => ?_) (fun _ => ?_)
  · obtain ⟨h2, e, hi2⟩ := H37 n (sx (ix (nI (6 * n) + 1))) h hlt hi
    unfold q_drawn at e
    obtain ⟨u, e1, e⟩ := bind_inv e
    obtain ⟨w, e2, e⟩ := bind_inv e
    rcases if_inv e with ⟨c, e⟩ | ⟨-, e⟩
    · cases e
      exact ⟨_, by rw [e1, Option.bind_some, e2, Option.bind_some, if_pos c], hi2⟩
    · cases e
  refine ite_ex (fun _ => ?_) (fun _ => ?_)
  · obtain ⟨h2, e, hi2⟩ := H38 n (sx (ix (nI (6 * n) + 1))) h hlt hi
    unfold q_image at e
    obtain ⟨u, e1, e⟩ := bind_inv e
    obtain ⟨w, e2, e⟩ := bind_inv e
    rcases if_inv e with ⟨c, e⟩ | ⟨-, e⟩
    · cases e
      exact ⟨_, by rw [e1, Option.bind_some, e2, Option.bind_some, if_pos c], hi2⟩
    · cases e
  refine ite_ex (fun _ => ?_) (fun _ => ?_)
  · obtain ⟨h2, e, hi2⟩ := H39 n (sx (ix (nI (6 * n) + 1))) h hlt hi
    unfold q_back at e
    obtain ⟨u, e1, e⟩ := bind_inv e
    obtain ⟨w, e2, e⟩ := bind_inv e
    rcases if_inv e with ⟨c, e⟩ | ⟨-, e⟩
    · cases e
      exact ⟨_, by rw [e1, Option.bind_some, e2, Option.bind_some, if_pos c], hi2⟩
    · cases e
  refine ite_ex (fun _ => ?_) (fun _ => ?_)
  · obtain ⟨h2, e, hi2⟩ := H40 n (sx (ix (nI (6 * n) + 1))) h hlt hi
    unfold q_count at e
    obtain ⟨u, e1, e⟩ := bind_inv e
    obtain ⟨w, e2, e⟩ := bind_inv e
    rcases if_inv e with ⟨c, e⟩ | ⟨-, e⟩
    · cases e
      exact ⟨_, by rw [e1, Option.bind_some, e2, Option.bind_some, if_pos c], hi2⟩
    · cases e
  refine ite_ex (fun _ => ?_) (fun _ => ?_)
  · obtain ⟨h2, e, hi2⟩ := H41 n h hlt hi
    unfold q_status at e
    obtain ⟨u, e1, e⟩ := bind_inv e
    obtain ⟨w, e2, e⟩ := bind_inv e
    rcases if_inv e with ⟨c, e⟩ | ⟨-, e⟩
    · cases e
      exact ⟨_, by rw [e1, Option.bind_some, e2, Option.bind_some, if_pos c], hi2⟩
    · cases e
  exact ⟨h, rfl, Hm n h hi⟩
theorem pure_of {Inv : Nat → Hp → Prop} (H : calls_ok Inv) (Hm : ∀ n h, Inv n h → Inv (n + 1) h) (H0 : Inv 0 (toS hE)) (Hb : ∀ n h, n ≤ 512 → Inv n h → hN h ≤ 599886 ∧ hS h ≤ 7302249 - 57410) : pure_law := by
  intro sx sn hs
  have key : ∀ (k n : Nat) (h : Hp), 6 * n ≤ sn + 5 → sn < 6 * (n + k) + 6 → n ≤ 512 → Inv n h → ∃ h' : Hp, lpn (fun q : Int32 × Hp => s_Law_loop_18 sx sn q.1 q.2) (k + 1) (nI (6 * n), h) = some (1, h') ∧ hN h' ≤ 599886 ∧ hS h' ≤ 7302249 - 57410 := by
    intro k
    induction k with
    | zero =>
      intro n h h1 h2 h3 hi
      have e : s_Law_loop_18 sx sn (nI (6 * n)) h = some (.inr (1, h)) := by
        unfold s_Law_loop_18
        rw [if_pos (by rw [lp_cond hs (by omega)]; omega)]
      refine ⟨h, ?_, Hb n h h3 hi⟩
      unfold lpn
      simp only [e]
    | succ k ih =>
      intro n h h1 h2 h3 hi
      by_cases hc : 6 * n + 6 ≤ sn
      · obtain ⟨h2', e, hi2⟩ := lp_body (sx := sx) H Hm hs hc hi
        obtain ⟨h', e', hb⟩ := ih (n + 1) h2' (by omega) (by omega) (by omega) hi2
        refine ⟨h', ?_, hb⟩
        have e6 : nI (6 * n) + 6 = nI (6 * (n + 1)) := by
          rw [show 6 * (n + 1) = 6 * n + 6 by omega, ← nI_add]
          rfl
        unfold lpn
        simp only [e, e6]
        exact e'
      · have e : s_Law_loop_18 sx sn (nI (6 * n)) h = some (.inr (1, h)) := by
          unfold s_Law_loop_18
          rw [if_pos (by rw [lp_cond hs (by omega)]; omega)]
        refine ⟨h, ?_, Hb n h h3 hi⟩
        unfold lpn
        simp only [e]
  obtain ⟨h', e, hb⟩ := key 512 0 (toS hE) (by omega) (by omega) (by omega) H0
  exact ⟨h', lp_of e, hb⟩
