/-! the law: reading, both sides' first steps -/
def SR (y : Nat → Nat) (n N k pt : Nat) (g : Hp) : Prop := TKr y n N g ∧ k ≤ N ∧ hI g 84 16 = nI k ∧ hI g 84 17 = nI pt ∧ hI g 84 18 = -1 ∧ pt ≤ 50
def rdF (k : Nat) : Bool := !(decide (k = 16) || decide (k = 17) || decide (k = 18))
def FRd (g g2 : Hp) : Prop := eqO sAs g g2 ∧ m84 rdF g g2
theorem FRd_refl (g : Hp) : FRd g g := ⟨eqO_refl _ _, m84_refl _ _⟩
theorem FRd_trans {h h1 h2 : Hp} (a : FRd h h1) (b : FRd h1 h2) : FRd h h2 := ⟨eqO_trans a.1 b.1, m84_trans a.2 b.2⟩
theorem FRd_sI {h h1 : Hp} {k : Nat} {v : Int32} (a : FRd h h1) (hk : rdF k = false) : FRd h (sI h1 84 k v) := ⟨eqO_sI a.1 (by decide), m84_sI a.2 (Or.inr hk)⟩
theorem TKr_fr {y : Nat → Nat} {n N : Nat} {g g2 : Hp} (T : TKr y n N g) (F : FRd g g2) : TKr y n N g2 := by
  unfold TKr
  rw [(F.1.2 92 (by decide)).1, (F.1.2 93 (by decide)).1, (F.1.2 94 (by decide)).1]
  exact T
theorem tC_b {y : Nat → Nat} {n k : Nat} (hy : ∀ i, i < n → y i < 256) : tC y n k < 1000 := by
  rcases tS_e y n k with ⟨z, -⟩ | ⟨z, -, w | w | w⟩
  · rw [tC_end z]; omega
  · have := tC_wordb w; omega
  · rw [tC_num w]; omega
  · rw [tC_oth w]; have := hy _ z; omega
theorem SR_lt {y : Nat → Nat} {n N k pt : Nat} {g : Hp} (S : SR y n N k pt g) (h : ¬ tC y n k = 0) : k < N := by
  have h1 := tC_real h
  rcases (show k < N ∨ k = N by have := S.2.1; omega) with z | z
  · exact z
  · rw [z, S.1.2.2.1] at h1; omega
theorem SR_go {y : Nat → Nat} {n N k pt : Nat} {g : Hp} (S : SR y n N k pt g) (h : k < N) : FRd g (sI g 84 16 (nI (k + 1))) ∧ SR y n N (k + 1) pt (sI g 84 16 (nI (k + 1))) := by
  have F : FRd g (sI g 84 16 (nI (k + 1))) := FRd_sI (FRd_refl g) (by decide)
  refine ⟨F, TKr_fr S.1 F, h, ?_, ?_, ?_, S.2.2.2.2.2⟩
  · rw [hI_sI', if_pos ⟨rfl, rfl⟩]
  · rw [hI_sI', if_neg (by omega)]; exact S.2.2.2.1
  · rw [hI_sI', if_neg (by omega)]; exact S.2.2.2.2.1
theorem p_fine1 {g : Hp} (e : hI g 84 18 = -1) : s_Mod_fine g = some 1 := by
  unfold s_Mod_fine s_Mod_fine_13
  rw [if_pos e, bz_1]
theorem p_fine0 {g : Hp} {p : Nat} (e : hI g 84 18 = nI p) (hp : p ≤ 400) : s_Mod_fine g = some 0 := by
  unfold s_Mod_fine s_Mod_fine_13
  rw [if_neg (by rw [e]; exact nI_m1 (by omega)), bz_0]
theorem p_takes {y : Nat → Nat} {n N k pt c : Nat} {g : Hp} (S : SR y n N k pt g) (hy : ∀ i, i < n → y i < 256) (hc : c < 1000) : s_Mod_takes0 (nI c) g = if tC y n k = c then some (1, sI g 84 16 (nI (k + 1))) else some (0, g) := by
  obtain ⟨t1, t2, t3, t4, t5⟩ := S.1
  have cb := tC_b (k := k) hy
  have kN := S.2.1
  unfold s_Mod_takes0 s_Mod_takes0_24 s_Mod_takes0_25 s_Mod_takes0_40
  rw [p_fine1 S.2.2.2.2.1, Option.bind_some, if_neg i10, S.2.2.1, ib_nI (by omega) (by decide), show ix (nI k) = k from nI_clamp (by omega), (t5 k kN).1]
  by_cases z : tC y n k = c
  · rw [if_pos (by rw [z]), if_pos z, if_neg i10, bz_1, nI_1]
  · rw [if_neg (by rw [nI_eq (by omega) (by omega)]; exact z), if_neg z, if_pos rfl, bz_0]
theorem p_faults {y : Nat → Nat} {n N k pt : Nat} {g : Hp} (S : SR y n N k pt g) : s_Mod_faults g = some (sI g 84 18 (nI (tF y n k))) := by
  obtain ⟨t1, t2, t3, t4, t5⟩ := S.1
  have kN := S.2.1
  unfold s_Mod_faults s_Mod_faults_20
  rw [p_fine1 S.2.2.2.2.1, Option.bind_some, if_neg i10, S.2.2.1, ib_nI (by omega) (by decide), show ix (nI k) = k from nI_clamp (by omega), (t5 k kN).2.2]
theorem p_must {y : Nat → Nat} {n N k pt c : Nat} {g : Hp} (S : SR y n N k pt g) (hy : ∀ i, i < n → y i < 256) (hc : c < 1000) : s_Mod_must (nI c) g = if tC y n k = c then some (sI g 84 16 (nI (k + 1))) else some (sI g 84 18 (nI (tF y n k))) := by
  unfold s_Mod_must s_Mod_must_12
  rw [p_takes S hy hc]
  by_cases z : tC y n k = c
  · rw [if_pos z, if_pos z, Option.bind_some, if_neg (show ¬ ((1 : Int32), sI g 84 16 (nI (k + 1))).1 = 0 from i10)]
  · rw [if_neg z, if_neg z, Option.bind_some, if_pos (show ((0 : Int32), g).1 = 0 from rfl)]
    show (s_Mod_faults g).bind _ = _
    rw [p_faults S, Option.bind_some]
/-- once a fault is found, nothing more is read -/
def BDd (g : Hp) : Prop := ∃ p, p ≤ 400 ∧ hI g 84 18 = nI p
theorem BD_takes {g : Hp} (B : BDd g) (c : Int32) : s_Mod_takes0 c g = some (0, g) := by
  obtain ⟨p, p1, p2⟩ := B
  unfold s_Mod_takes0 s_Mod_takes0_24 s_Mod_takes0_25 s_Mod_takes0_40
  rw [p_fine0 p2 p1, Option.bind_some, if_pos rfl, if_pos rfl, bz_0]
theorem BD_faults {g : Hp} (B : BDd g) : s_Mod_faults g = some g := by
  obtain ⟨p, p1, p2⟩ := B
  unfold s_Mod_faults s_Mod_faults_20
  rw [p_fine0 p2 p1, Option.bind_some, if_pos rfl]
theorem BD_must {g : Hp} (B : BDd g) (c : Int32) : s_Mod_must c g = some g := by
  unfold s_Mod_must s_Mod_must_12
  rw [BD_takes B, Option.bind_some, if_pos (show ((0 : Int32), g).1 = 0 from rfl)]
  show (s_Mod_faults g).bind _ = _
  rw [BD_faults B, Option.bind_some]
theorem BD_part {g : Hp} (B : BDd g) (d : Int32) (f : Nat) : (r_Mod_readPart (f + 1)).1 d g = some g := by
  obtain ⟨p, p1, p2⟩ := B
  show b_Mod_readPart _ _ _ d g = _
  unfold b_Mod_readPart
  rw [p_fine0 p2 p1, Option.bind_some, if_pos rfl]
theorem BD_tloop {rc0 rc1 rc2 : Int32 → Hp → Option Hp} {g : Hp} (B : BDd g) (d : Int32) : lp (fun q : Int32 × Hp => b_Mod_readTerm_5 rc0 rc1 rc2 q.1 q.2) (d, g) = some g := by
  refine lp_inr ?_
  show b_Mod_readTerm_5 rc0 rc1 rc2 d g = _
  unfold b_Mod_readTerm_5 s_Mod_sign
  rw [Option.bind_some, BD_takes B, Option.bind_some, if_pos (show ((0 : Int32), g).1 = 0 from rfl), Option.bind_some]
  show (s_Mod_takes0 _ g).bind _ = _
  rw [BD_takes B, Option.bind_some, if_pos (show ((0 : Int32), g).1 = 0 from rfl)]
theorem BD_sloop {rc0 rc1 rc2 : Int32 → Hp → Option Hp} {g : Hp} (B : BDd g) (d : Int32) : lp (fun q : Int32 × Hp => b_Mod_readSum_5 rc0 rc1 rc2 q.1 q.2) (d, g) = some g := by
  refine lp_inr ?_
  show b_Mod_readSum_5 rc0 rc1 rc2 d g = _
  unfold b_Mod_readSum_5 s_Mod_sign
  rw [Option.bind_some, BD_takes B, Option.bind_some, if_pos (show ((0 : Int32), g).1 = 0 from rfl), Option.bind_some]
  show (s_Mod_takes0 _ g).bind _ = _
  rw [BD_takes B, Option.bind_some, if_pos (show ((0 : Int32), g).1 = 0 from rfl)]
theorem BD_term {g : Hp} (B : BDd g) (d : Int32) (f : Nat) : (r_Mod_readPart (f + 2)).2.2 d g = some g := by
  show b_Mod_readTerm _ _ _ d g = _
  unfold b_Mod_readTerm
  rw [BD_part B d f, Option.bind_some]
  exact BD_tloop B d
theorem BD_sum {g : Hp} (B : BDd g) (d : Int32) (f : Nat) : (r_Mod_readPart (f + 3)).2.1 d g = some g := by
  show b_Mod_readSum _ _ _ d g = _
  unfold b_Mod_readSum
  rw [BD_term B d f, Option.bind_some]
  exact BD_sloop B d
/-- the class's -/
def SC (y : Nat → Nat) (n k s pt : Nat) (h : Hp) : Prop := CK y n k h ∧ hI h 47 3 = nI s ∧ hI h 47 5 = nI pt ∧ hI h 47 9 = -1
def sRd (j : Nat) : Bool := decide (j = 47) || decide (j = 48)
def FC (h h2 : Hp) : Prop := eqO sRd h h2 ∧ hI h2 47 4 = hI h 47 4
theorem FC_refl (h : Hp) : FC h h := ⟨eqO_refl _ _, rfl⟩
theorem FC_trans {h h1 h2 : Hp} (a : FC h h1) (b : FC h1 h2) : FC h h2 := ⟨eqO_trans a.1 b.1, b.2.trans a.2⟩
theorem s47_Rd (j : Nat) (h : sRd j = false) : s47 j = false := by
  unfold sRd at h
  rw [Bool.or_eq_false_iff] at h
  exact h.1
theorem c_next {y : Nat → Nat} {n k s pt : Nat} {h : Hp} (S : SC y n k s pt h) : ∃ h2, s_Reader_advance h = some h2 ∧ SC y n (k + 1) s pt h2 ∧ FC h h2 ∧ hI h2 48 = hI h 48 := by
  obtain ⟨h2, a1, a2, a3, a4⟩ := p_next S.1
  exact ⟨h2, a1, ⟨a2, by rw [a4 3 (by decide)]; exact S.2.1, by rw [a4 5 (by decide)]; exact S.2.2.1, by rw [a4 9 (by decide)]; exact S.2.2.2⟩, ⟨eqO_mono a3 s47_Rd, a4 4 (by decide)⟩, (a3.2 48 (by decide)).1⟩
theorem CK_fr {y : Nat → Nat} {n k : Nat} {h h2 : Hp} (C : CK y n k h) (e45 : hI h2 45 = hI h 45) (e46 : hI h2 46 = hI h 46) (e : ∀ i, 6 ≤ i → i ≤ 8 → hI h2 47 i = hI h 47 i) : CK y n k h2 := ⟨TY_eq C.1 e45 e46, by rw [e 6 (by decide) (by decide)]; exact C.2.1, by rw [e 7 (by decide) (by decide)]; exact C.2.2.1, by rw [e 8 (by decide) (by decide)]; exact C.2.2.2⟩
theorem c_put {y : Nat → Nat} {n k s pt : Nat} {h : Hp} (S : SC y n k s pt h) (hs : s < 400) (v1 v2 : Int32) : ∃ h2, s_Reader_put v1 v2 h = some h2 ∧ SC y n k (s + 1) pt h2 ∧ FC h h2 ∧ ∀ i, hI h2 48 i = if i = s then opc v1 v2 else hI h 48 i := by
  refine ⟨sI (sI h 48 s (opc v1 v2)) 47 3 (nI (s + 1)), ?_, ⟨CK_fr S.1 (by rw [hI_sI_ne (by decide), hI_sI_ne (by decide)]) (by rw [hI_sI_ne (by decide), hI_sI_ne (by decide)]) (fun i h1 h2 => by rw [hI_sI', if_neg (by omega), hI_sI_ne (by decide)]), ?_, ?_, ?_⟩, ⟨eqO_sI (eqO_sI (eqO_refl _ _) (by decide)) (by decide), by rw [hI_sI', if_neg (by omega), hI_sI_ne (by decide)]⟩, fun i => ?_⟩
  · unfold s_Reader_put s_Reader_put_36
    rw [S.2.1, if_neg (by rw [show (400 : Int32) = nI 400 from rfl, nI_leI (by decide) (by omega)]; omega), ib_nI hs (by decide), lt_eq, hI_sI_ne (by decide), S.2.1, nI_1, show ix (nI s) = s from nI_clamp (by omega)]
    rfl
  · rw [hI_sI', if_pos ⟨rfl, rfl⟩]
  · rw [hI_sI', if_neg (by omega), hI_sI_ne (by decide)]; exact S.2.2.1
  · rw [hI_sI', if_neg (by omega), hI_sI_ne (by decide)]; exact S.2.2.2
  · rw [hI_sI_ne (by decide), hI_sI']
    by_cases z : i = s
    · rw [if_pos ⟨rfl, z⟩, if_pos z]
    · rw [if_neg (fun u => z u.2), if_neg z]
theorem c_aim {y : Nat → Nat} {n k s pt j : Nat} {h : Hp} (S : SC y n k s pt h) (hj : j < 400) (v2 : Int32) : ∃ h2, s_Reader_aimHere (nI j) v2 h = some h2 ∧ SC y n k s pt h2 ∧ FC h h2 ∧ ∀ i, hI h2 48 i = if i = j then opc v2 (nI s) else hI h 48 i := by
  refine ⟨sI h 48 j (opc v2 (nI s)), ?_, ⟨CK_fr S.1 (by rw [hI_sI_ne (by decide)]) (by rw [hI_sI_ne (by decide)]) (fun i h1 h2 => by rw [hI_sI_ne (by decide)]), ?_, ?_, ?_⟩, ⟨eqO_sI (eqO_refl _ _) (by decide), by rw [hI_sI_ne (by decide)]⟩, fun i => ?_⟩
  · unfold s_Reader_aimHere s_Reader_aimHere_23
    rw [if_neg (by rw [show (400 : Int32) = nI 400 from rfl, nI_leI (by decide) (by omega)]; omega), ib_nI hj (by decide), S.2.1, show ix (nI j) = j from nI_clamp (by omega)]
    rfl
  · rw [hI_sI_ne (by decide)]; exact S.2.1
  · rw [hI_sI_ne (by decide)]; exact S.2.2.1
  · rw [hI_sI_ne (by decide)]; exact S.2.2.2
  · rw [hI_sI']
    by_cases z : i = j
    · rw [if_pos ⟨rfl, z⟩, if_pos z]
    · rw [if_neg (fun u => z u.2), if_neg z]
theorem c_fail {y : Nat → Nat} {n k s pt : Nat} {h : Hp} (S : SC y n k s pt h) : s_Reader_fail h = some (0, sI h 47 9 (nI (tF y n k))) := by
  unfold s_Reader_fail
  rw [S.1.2.2.1]
def FL (h2 g2 : Hp) : Prop := ∃ p, p ≤ 400 ∧ hI h2 47 9 = nI p ∧ hI g2 84 18 = nI p
/-- what both have read: a fault at one place, or the same piece -/
def JT (y : Nat → Nat) (n N d : Nat) (EV : Nat → Nat → Nat → Nat → Nat → (Nat → Int32) → Prop) (k s pt : Nat) (h g : Hp) (X : Option (Int32 × Hp)) (Y : Option Hp) : Prop :=
  ∃ b h2 g2, X = some (b, h2) ∧ Y = some g2 ∧ FC h h2 ∧ FRd g g2 ∧ ((b = 0 ∧ FL h2 g2) ∨ (b = 1 ∧ ∃ k2 s2 pt2, k + d ≤ k2 ∧ s + d ≤ s2 ∧ s2 + k ≤ s + k2 ∧ pt + d ≤ pt2 ∧ SC y n k2 s2 pt2 h2 ∧ SR y n N k2 pt2 g2 ∧ (∀ i, i < s → hI h2 48 i = hI h 48 i) ∧ EV s s2 pt k k2 (hI h2 48)))
theorem JT_fail {y : Nat → Nat} {n N d k s pt kf pf : Nat} {EV : Nat → Nat → Nat → Nat → Nat → (Nat → Int32) → Prop} {h g h1 g1 : Hp} {X : Option (Int32 × Hp)} {Y : Option Hp} (hn : n ≤ 400) (F1 : FC h h1) (F2 : FRd g g1) (eX : X = some (0, sI h1 47 9 (nI (tF y n kf)))) (eY : Y = some (sI (sI g1 84 18 (nI (tF y n kf))) 84 17 (nI pf))) : JT y n N d EV k s pt h g X Y := by
  refine ⟨0, _, _, eX, eY, ⟨eqO_sI F1.1 (by decide), by rw [hI_sI', if_neg (by omega)]; exact F1.2⟩, FRd_sI (FRd_sI F2 (by decide)) (by decide), Or.inl ⟨rfl, tF y n kf, by have := (tF_b (y := y) (n := n) kf).1; omega, by rw [hI_sI', if_pos ⟨rfl, rfl⟩], by rw [hI_sI', if_neg (by omega), hI_sI', if_pos ⟨rfl, rfl⟩]⟩⟩
theorem JT_fail' {y : Nat → Nat} {n N d k s pt kf : Nat} {EV : Nat → Nat → Nat → Nat → Nat → (Nat → Int32) → Prop} {h g h1 g1 : Hp} {X : Option (Int32 × Hp)} {Y : Option Hp} (hn : n ≤ 400) (F1 : FC h h1) (F2 : FRd g g1) (eX : X = some (0, sI h1 47 9 (nI (tF y n kf)))) (eY : Y = some (sI g1 84 18 (nI (tF y n kf)))) : JT y n N d EV k s pt h g X Y := by
  refine ⟨0, _, _, eX, eY, ⟨eqO_sI F1.1 (by decide), by rw [hI_sI', if_neg (by omega)]; exact F1.2⟩, FRd_sI F2 (by decide), Or.inl ⟨rfl, tF y n kf, by have := (tF_b (y := y) (n := n) kf).1; omega, by rw [hI_sI', if_pos ⟨rfl, rfl⟩], by rw [hI_sI', if_pos ⟨rfl, rfl⟩]⟩⟩
theorem FL_BD {h g : Hp} (F : FL h g) : BDd g := by
  obtain ⟨p, p1, -, p3⟩ := F
  exact ⟨p, p1, p3⟩
