/-! image, back -/
theorem cy_some {α : Type} {h : Hp} {a b n : Nat} {m : Int32} {F : Option α} (ha : nd h a 0 n) (hb : nd h b 0 n) (hm : m = nI n) (hn : n < 2147483648) : cy h a 0 b 0 m F = F := by
  subst hm
  unfold cy
  rw [if_pos]
  have e : ix (nI n) = n := nI_clamp hn
  refine ⟨⟨ha.2, by rw [ha.1]⟩, ⟨hb.2, by rw [hb.1]⟩, by decide, by decide, nI_pos hn, ?_, ?_⟩
  · rw [e, ln_of ha, show ix 0 = 0 by decide]; omega
  · rw [e, ln_of hb, show ix 0 = 0 by decide]; omega
theorem hI_cpI (h : Hp) {a b n : Nat} {m : Int32} (hm : m = nI n) (hn : n < 2147483648) (q k : Nat) : hI (cpI h a 0 b 0 m) q k = if q = b ∧ k < n then hI h a k else hI h q k := by
  subst hm
  show (if q = b then va_cpy (hI h a) (hI h b) (Int32.toNatClampNeg 0) (Int32.toNatClampNeg 0) (nI n).toNatClampNeg else hI h q) k = _
  by_cases hq : q = b
  · subst hq
    rw [if_pos rfl]
    unfold va_cpy
    rw [nI_clamp hn, show Int32.toNatClampNeg 0 = 0 by decide]
    by_cases hk : k < n
    · rw [if_pos ⟨Nat.zero_le _, by omega⟩, if_pos ⟨rfl, hk⟩, Nat.zero_add, Nat.sub_zero]
    · rw [if_neg (by omega), if_neg (fun z => hk z.2)]
  · rw [if_neg hq, if_neg (fun z => hq z.1)]
def cpl (s d : Nat) : List (Nat × Nat) → Hp → Hp
  | [], h => h
  | (o, n) :: l, h => cpl s d l (cpI h (s + o) 0 (d + o) 0 (nI n))
theorem cpl_2 (s d : Nat) : ∀ (l : List (Nat × Nat)) (h : Hp), (cpl s d l h).2 = h.2
  | [], _ => rfl
  | (o, n) :: l, h => cpl_2 s d l _
theorem cpl_oth {s d q : Nat} (hq : q < d ∨ d + 14 ≤ q) : ∀ (l : List (Nat × Nat)) (h : Hp), (∀ z, z ∈ l → z.1 < 14 ∧ z.2 < 2147483648) → hI (cpl s d l h) q = hI h q
  | [], _, _ => rfl
  | (o, n) :: l, h, hl => by
    have h0 : o < 14 ∧ n < 2147483648 := hl (o, n) List.mem_cons_self
    refine (cpl_oth hq l _ (fun z hz => hl z (List.mem_cons_of_mem _ hz))).trans ?_
    funext k
    rw [hI_cpI h rfl h0.2, if_neg (by omega)]
theorem cpl_dst {s d o k : Nat} (hd : s + 14 ≤ d ∨ d + 14 ≤ s) (ho : o < 14) : ∀ (l : List (Nat × Nat)) (h : Hp), (∀ z, z ∈ l → z.1 < 14 ∧ z.2 < 2147483648) → (hI h (d + o) k = hI h (s + o) k ∨ ∃ n, (o, n) ∈ l ∧ k < n) → hI (cpl s d l h) (d + o) k = hI h (s + o) k
  | [], h, _, e => by
    rcases e with e | ⟨n, e, _⟩
    · exact e
    · cases e
  | (o2, n2) :: l, h, hl, e => by
    have h0 : o2 < 14 ∧ n2 < 2147483648 := hl (o2, n2) List.mem_cons_self
    have src : hI (cpI h (s + o2) 0 (d + o2) 0 (nI n2)) (s + o) k = hI h (s + o) k := by
      rw [hI_cpI h rfl h0.2, if_neg (by omega)]
    have dst : hI (cpI h (s + o2) 0 (d + o2) 0 (nI n2)) (d + o) k = if o = o2 ∧ k < n2 then hI h (s + o) k else hI h (d + o) k := by
      rw [hI_cpI h rfl h0.2]
      by_cases z : o = o2 ∧ k < n2
      · rw [if_pos z, if_pos ⟨by omega, z.2⟩, z.1]
      · rw [if_neg z, if_neg (by omega)]
    refine (cpl_dst hd ho l _ (fun z hz => hl z (List.mem_cons_of_mem _ hz)) ?_).trans src
    rw [src, dst]
    by_cases z : o = o2 ∧ k < n2
    · rw [if_pos z]; exact Or.inl rfl
    · rw [if_neg z]
      rcases e with e | ⟨n, e, hk⟩
      · exact Or.inl e
      · rcases List.mem_cons.mp e with e | e
        · cases e
          exact absurd ⟨rfl, hk⟩ z
        · exact Or.inr ⟨n, e, hk⟩
def opA : List (Nat × Nat) := [(1, 6), (2, 24), (3, 11), (4, 50)]
def opB : List (Nat × Nat) := [(6, 6), (7, 6), (8, 40), (9, 6), (10, 6), (11, 6), (12, 12), (13, 12)]
def cpF (s d : Nat) (h : Hp) : Hp := sI (sI (sI (sI (sI (sI h d 13 (hI h s 13)) d 14 (hI h s 14)) d 15 (hI h s 15)) d 16 (hI h s 16)) d 17 (hI h s 17)) d 18 (hI h s 18)
/-- a state copied -/
def CPY (s d : Nat) (h h1 : Hp) : Prop := (∀ q, q < d ∨ d + 14 ≤ q → hI h1 q = hI h q) ∧ hL h1 = hL h ∧ (∀ K, StP K h s → StP K h1 d) ∧ (∀ a t, ¬ (a = d + 5 ∧ t < 6) → hR h1 a t = hR h a t) ∧ (∀ t, t < 6 → hR h1 (d + 5) t = hR h (s + 5) t) ∧ h1.2.2.2 = h.2.2.2
theorem pl_ops : ∀ j, j < 191 → ((pl j).1 = 0 ∧ 13 ≤ (pl j).2 ∧ (pl j).2 ≤ 18) ∨ (∃ z, z ∈ opA ∧ z.1 = (pl j).1 ∧ (pl j).2 < z.2) ∨ ∃ z, z ∈ opB ∧ z.1 = (pl j).1 ∧ (pl j).2 < z.2 := by decide +kernel
theorem cpF_at {s d : Nat} {h : Hp} (hd : s + 14 ≤ d ∨ d + 14 ≤ s) {p : Nat} (h1 : 13 ≤ p) (h2 : p ≤ 18) : hI (cpF s d h) d p = hI h s p := by
  unfold cpF
  rcases (show p = 13 ∨ p = 14 ∨ p = 15 ∨ p = 16 ∨ p = 17 ∨ p = 18 by omega) with rfl | rfl | rfl | rfl | rfl | rfl <;> simp [hI_sI']
theorem cpF_oth {s d q : Nat} {h : Hp} (hq : q ≠ d) : hI (cpF s d h) q = hI h q := by
  unfold cpF
  rw [hI_sI_ne hq, hI_sI_ne hq, hI_sI_ne hq, hI_sI_ne hq, hI_sI_ne hq, hI_sI_ne hq]
theorem CPY_of {s d : Nat} {h hl : Hp} (hd : s + 14 ≤ d ∨ d + 14 ≤ s) (e1 : hI hl = hI (cpl s d opA h)) (e2 : hL hl = hL h) (e3 : ∀ a t, ¬ (a = d + 5 ∧ t < 6) → hR hl a t = hR h a t) (e4 : ∀ t, t < 6 → hR hl (d + 5) t = hR h (s + 5) t) (e5 : hl.2.2.2 = h.2.2.2) : CPY s d h (cpF s d (cpl s d opB hl)) := by
  have lA : ∀ z, z ∈ opA → z.1 < 14 ∧ z.2 < 2147483648 := by decide
  have lB : ∀ z, z ∈ opB → z.1 < 14 ∧ z.2 < 2147483648 := by decide
  have oA : ∀ z, z ∈ opA → z.1 ≠ 0 := by decide
  have oB : ∀ z, z ∈ opB → z.1 ≠ 0 := by decide
  have t2 : (cpF s d (cpl s d opB hl)).2 = hl.2 := (show (cpl s d opB hl).2 = hl.2 from cpl_2 s d opB hl)
  refine ⟨fun q hq => ?_, ?_, fun K H j hj => ?_, fun a t z => ?_, fun t ht => ?_, ?_⟩
  · rw [cpF_oth (by omega), cpl_oth hq opB hl lB, e1, cpl_oth hq opA h lA]
  · rw [← e2]
    unfold hL
    rw [t2]
  · have ho := pl_off j hj
    rw [← H j hj]
    have srcA : ∀ o k, o < 14 → hI hl (s + o) k = hI h (s + o) k := fun o k hk => by rw [e1, cpl_oth (by omega) opA h lA]
    rcases pl_ops j hj with ⟨z0, z1, z2⟩ | ⟨⟨o, n⟩, z0, z1, z2⟩ | ⟨⟨o, n⟩, z0, z1, z2⟩
    · rw [z0, Nat.add_zero, Nat.add_zero, cpF_at hd z1 z2, cpl_oth (by omega) opB hl lB, e1, cpl_oth (by omega) opA h lA]
    · have z1 : o = (pl j).1 := z1
      have on : (pl j).1 ≠ 0 := by rw [← z1]; exact oA _ z0
      rw [cpF_oth (by omega)]
      refine (cpl_dst hd ho opB hl lB (Or.inl ?_)).trans (srcA _ _ ho)
      rw [srcA _ _ ho, e1]
      exact cpl_dst hd ho opA h lA (Or.inr ⟨n, by rw [← z1]; exact z0, z2⟩)
    · have z1 : o = (pl j).1 := z1
      have on : (pl j).1 ≠ 0 := by rw [← z1]; exact oB _ z0
      rw [cpF_oth (by omega)]
      exact (cpl_dst hd ho opB hl lB (Or.inr ⟨n, by rw [← z1]; exact z0, z2⟩)).trans (srcA _ _ ho)
  · rw [← e3 a t z]
    unfold hR
    rw [t2]
  · rw [← e4 t ht]
    unfold hR
    rw [t2]
  · rw [t2, e5]
theorem oq_some {α : Type} {h : Hp} {o : Option Nat} {F : Option α} (H : ∀ r, o = some r → nd h r 101 2) : oq h o 101 F = F := by
  cases o with
  | none => rfl
  | some r => exact ak_some (H r rfl) F
theorem p_copy16 {h : Hp} (rw0 : RW h) : ∃ h1, s_State_copyFrom_16 h = some h1 ∧ CPY 16 1 h h1 := by
  have hA : s_State_copyFrom_16 h = lp (fun q : Int32 × Hp => s_State_copyFrom_16_74 q.1 q.2) (0, cpl 16 1 opA h) := by
    unfold s_State_copyFrom_16
    rw [cy_some (a := 17) (b := 2) (n := 6) (m := 6) (nd_of (by decide) rfl) (nd_of (by decide) rfl) rfl (by decide), lt_eq, cy_some (a := 18) (b := 3) (n := 24) (m := 24) (nd_of (by decide) rfl) (nd_of (by decide) rfl) rfl (by decide), lt_eq, cy_some (a := 19) (b := 4) (n := 11) (m := 11) (nd_of (by decide) rfl) (nd_of (by decide) rfl) rfl (by decide), lt_eq, cy_some (a := 20) (b := 5) (n := 50) (m := 50) (nd_of (by decide) rfl) (nd_of (by decide) rfl) rfl (by decide)]
    rfl
  have tA : (cpl 16 1 opA h).2 = h.2 := cpl_2 16 1 opA h
  have rA : ∀ a t, hR (cpl 16 1 opA h) a t = hR h a t := fun a t => by unfold hR; rw [tA]
  have key : ∀ (q m : Nat) (g : Hp), m + q = 6 → hI g = hI (cpl 16 1 opA h) → hL g = hL h → (∀ a t, ¬ (a = 6 ∧ t < m) → hR g a t = hR h a t) → (∀ t, t < m → hR g 6 t = hR h 21 t) → g.2.2.2 = h.2.2.2 → ∃ h1, lp (fun q : Int32 × Hp => s_State_copyFrom_16_74 q.1 q.2) (nI m, g) = some h1 ∧ CPY 16 1 h h1 := by
    intro q
    induction q with
    | zero =>
      intro m g hm e1 e2 e3 e4 e5
      have hm : m = 6 := by omega
      subst hm
      refine ⟨cpF 16 1 (cpl 16 1 opB g), lp_inr ?_, CPY_of (by decide) e1 e2 e3 e4 e5⟩
      show s_State_copyFrom_16_74 (nI 6) g = _
      unfold s_State_copyFrom_16_74
      rw [if_pos (show (6 : Int32) ≤ nI 6 by decide), cy_some (a := 22) (b := 7) (n := 6) (m := 6) (nd_of (by decide) rfl) (nd_of (by decide) rfl) rfl (by decide), lt_eq, cy_some (a := 23) (b := 8) (n := 6) (m := 6) (nd_of (by decide) rfl) (nd_of (by decide) rfl) rfl (by decide), lt_eq, cy_some (a := 24) (b := 9) (n := 40) (m := 40) (nd_of (by decide) rfl) (nd_of (by decide) rfl) rfl (by decide), lt_eq, cy_some (a := 25) (b := 10) (n := 6) (m := 6) (nd_of (by decide) rfl) (nd_of (by decide) rfl) rfl (by decide), lt_eq, cy_some (a := 26) (b := 11) (n := 6) (m := 6) (nd_of (by decide) rfl) (nd_of (by decide) rfl) rfl (by decide), lt_eq, cy_some (a := 27) (b := 12) (n := 6) (m := 6) (nd_of (by decide) rfl) (nd_of (by decide) rfl) rfl (by decide), lt_eq, cy_some (a := 28) (b := 13) (n := 12) (m := 12) (nd_of (by decide) rfl) (nd_of (by decide) rfl) rfl (by decide), lt_eq, cy_some (a := 29) (b := 14) (n := 12) (m := 12) (nd_of (by decide) rfl) (nd_of (by decide) rfl) rfl (by decide), lt_eq, lt_eq, lt_eq, lt_eq, lt_eq, lt_eq]
      have n : ∀ (x : Hp) (k q : Nat) (v : Int32), hI (sI x 1 k v) 16 q = hI x 16 q := fun x k q v => by rw [hI_sI_ne (by decide)]
      rw [n, n, n, n, n, n, n, n, n, n, n, n, n, n, n]
      rfl
    | succ q ih =>
      intro m g hm e1 e2 e3 e4 e5
      have kdg : ∀ r, kd g r = kd h r := fun r => by unfold kd hD; rw [e5]
      have nidg : nid g = nid h := by unfold nid hN; rw [e5]
      have slot : hR g 21 m = hR h 21 m := e3 21 m (by omega)
      obtain ⟨h1, a1, a2⟩ := ih (m + 1) (sR g 6 m (hR h 21 m)) (by omega) e1 e2 (fun a t z => by
        rw [hR_sR', if_neg (by omega)]; exact e3 a t (by omega)) (fun t ht => by
        rw [hR_sR']
        by_cases z : t = m
        · rw [if_pos ⟨rfl, z⟩, z]
        · rw [if_neg (fun y => z y.2)]; exact e4 t (by omega)) e5
      refine ⟨h1, ?_, a2⟩
      rw [lp_inl (s' := (nI (m + 1), sR g 6 m (hR h 21 m))) ?_]
      · exact a1
      · show s_State_copyFrom_16_74 (nI m) g = _
        unfold s_State_copyFrom_16_74
        rw [if_neg (by rw [show (6 : Int32) = nI 6 from rfl, nI_leI (by decide) (by omega)]; omega), ib_nI (by omega) (by decide), ib_nI (by omega) (by decide), show ix (nI m) = m from nI_clamp (by omega), slot, oq_some (fun r hr => ?_), nI_1]
        obtain ⟨z1, z2⟩ := rw0.2.2.2.2.2.2 21 m r (by decide) (by omega) hr
        exact ⟨(kdg r).trans z2.1, by rw [nidg]; exact z2.2⟩
  obtain ⟨h1, a1, a2⟩ := key 6 0 (cpl 16 1 opA h) (by decide) rfl (by unfold hL; rw [tA]) (fun a t _ => rA a t) (fun t ht => absurd ht (by omega)) (by rw [tA])
  exact ⟨h1, hA.trans a1, a2⟩
theorem p_copy30 {h : Hp} (rw0 : RW h) : ∃ h1, s_State_copyFrom_30 h = some h1 ∧ CPY 30 1 h h1 := by
  have hA : s_State_copyFrom_30 h = lp (fun q : Int32 × Hp => s_State_copyFrom_30_74 q.1 q.2) (0, cpl 30 1 opA h) := by
    unfold s_State_copyFrom_30
    rw [cy_some (a := 31) (b := 2) (n := 6) (m := 6) (nd_of (by decide) rfl) (nd_of (by decide) rfl) rfl (by decide), lt_eq, cy_some (a := 32) (b := 3) (n := 24) (m := 24) (nd_of (by decide) rfl) (nd_of (by decide) rfl) rfl (by decide), lt_eq, cy_some (a := 33) (b := 4) (n := 11) (m := 11) (nd_of (by decide) rfl) (nd_of (by decide) rfl) rfl (by decide), lt_eq, cy_some (a := 34) (b := 5) (n := 50) (m := 50) (nd_of (by decide) rfl) (nd_of (by decide) rfl) rfl (by decide)]
    rfl
  have tA : (cpl 30 1 opA h).2 = h.2 := cpl_2 30 1 opA h
  have rA : ∀ a t, hR (cpl 30 1 opA h) a t = hR h a t := fun a t => by unfold hR; rw [tA]
  have key : ∀ (q m : Nat) (g : Hp), m + q = 6 → hI g = hI (cpl 30 1 opA h) → hL g = hL h → (∀ a t, ¬ (a = 6 ∧ t < m) → hR g a t = hR h a t) → (∀ t, t < m → hR g 6 t = hR h 35 t) → g.2.2.2 = h.2.2.2 → ∃ h1, lp (fun q : Int32 × Hp => s_State_copyFrom_30_74 q.1 q.2) (nI m, g) = some h1 ∧ CPY 30 1 h h1 := by
    intro q
    induction q with
    | zero =>
      intro m g hm e1 e2 e3 e4 e5
      have hm : m = 6 := by omega
      subst hm
      refine ⟨cpF 30 1 (cpl 30 1 opB g), lp_inr ?_, CPY_of (by decide) e1 e2 e3 e4 e5⟩
      show s_State_copyFrom_30_74 (nI 6) g = _
      unfold s_State_copyFrom_30_74
      rw [if_pos (show (6 : Int32) ≤ nI 6 by decide), cy_some (a := 36) (b := 7) (n := 6) (m := 6) (nd_of (by decide) rfl) (nd_of (by decide) rfl) rfl (by decide), lt_eq, cy_some (a := 37) (b := 8) (n := 6) (m := 6) (nd_of (by decide) rfl) (nd_of (by decide) rfl) rfl (by decide), lt_eq, cy_some (a := 38) (b := 9) (n := 40) (m := 40) (nd_of (by decide) rfl) (nd_of (by decide) rfl) rfl (by decide), lt_eq, cy_some (a := 39) (b := 10) (n := 6) (m := 6) (nd_of (by decide) rfl) (nd_of (by decide) rfl) rfl (by decide), lt_eq, cy_some (a := 40) (b := 11) (n := 6) (m := 6) (nd_of (by decide) rfl) (nd_of (by decide) rfl) rfl (by decide), lt_eq, cy_some (a := 41) (b := 12) (n := 6) (m := 6) (nd_of (by decide) rfl) (nd_of (by decide) rfl) rfl (by decide), lt_eq, cy_some (a := 42) (b := 13) (n := 12) (m := 12) (nd_of (by decide) rfl) (nd_of (by decide) rfl) rfl (by decide), lt_eq, cy_some (a := 43) (b := 14) (n := 12) (m := 12) (nd_of (by decide) rfl) (nd_of (by decide) rfl) rfl (by decide), lt_eq, lt_eq, lt_eq, lt_eq, lt_eq, lt_eq]
      have n : ∀ (x : Hp) (k q : Nat) (v : Int32), hI (sI x 1 k v) 30 q = hI x 30 q := fun x k q v => by rw [hI_sI_ne (by decide)]
      rw [n, n, n, n, n, n, n, n, n, n, n, n, n, n, n]
      rfl
    | succ q ih =>
      intro m g hm e1 e2 e3 e4 e5
      have kdg : ∀ r, kd g r = kd h r := fun r => by unfold kd hD; rw [e5]
      have nidg : nid g = nid h := by unfold nid hN; rw [e5]
      have slot : hR g 35 m = hR h 35 m := e3 35 m (by omega)
      obtain ⟨h1, a1, a2⟩ := ih (m + 1) (sR g 6 m (hR h 35 m)) (by omega) e1 e2 (fun a t z => by
        rw [hR_sR', if_neg (by omega)]; exact e3 a t (by omega)) (fun t ht => by
        rw [hR_sR']
        by_cases z : t = m
        · rw [if_pos ⟨rfl, z⟩, z]
        · rw [if_neg (fun y => z y.2)]; exact e4 t (by omega)) e5
      refine ⟨h1, ?_, a2⟩
      rw [lp_inl (s' := (nI (m + 1), sR g 6 m (hR h 35 m))) ?_]
      · exact a1
      · show s_State_copyFrom_30_74 (nI m) g = _
        unfold s_State_copyFrom_30_74
        rw [if_neg (by rw [show (6 : Int32) = nI 6 from rfl, nI_leI (by decide) (by omega)]; omega), ib_nI (by omega) (by decide), ib_nI (by omega) (by decide), show ix (nI m) = m from nI_clamp (by omega), slot, oq_some (fun r hr => ?_), nI_1]
        obtain ⟨z1, z2⟩ := rw0.2.2.2.2.2.2 35 m r (by decide) (by omega) hr
        exact ⟨(kdg r).trans z2.1, by rw [nidg]; exact z2.2⟩
  obtain ⟨h1, a1, a2⟩ := key 6 0 (cpl 30 1 opA h) (by decide) rfl (by unfold hL; rw [tA]) (fun a t _ => rA a t) (fun t ht => absurd ht (by omega)) (by rw [tA])
  exact ⟨h1, hA.trans a1, a2⟩
theorem p_copy16_1 {h : Hp} (rw0 : RW h) : ∃ h1, s_State_copyFrom_16_1 h = some h1 ∧ CPY 1 16 h h1 := by
  have hA : s_State_copyFrom_16_1 h = lp (fun q : Int32 × Hp => s_State_copyFrom_16_1_74 q.1 q.2) (0, cpl 1 16 opA h) := by
    unfold s_State_copyFrom_16_1
    rw [cy_some (a := 2) (b := 17) (n := 6) (m := 6) (nd_of (by decide) rfl) (nd_of (by decide) rfl) rfl (by decide), lt_eq, cy_some (a := 3) (b := 18) (n := 24) (m := 24) (nd_of (by decide) rfl) (nd_of (by decide) rfl) rfl (by decide), lt_eq, cy_some (a := 4) (b := 19) (n := 11) (m := 11) (nd_of (by decide) rfl) (nd_of (by decide) rfl) rfl (by decide), lt_eq, cy_some (a := 5) (b := 20) (n := 50) (m := 50) (nd_of (by decide) rfl) (nd_of (by decide) rfl) rfl (by decide)]
    rfl
  have tA : (cpl 1 16 opA h).2 = h.2 := cpl_2 1 16 opA h
  have rA : ∀ a t, hR (cpl 1 16 opA h) a t = hR h a t := fun a t => by unfold hR; rw [tA]
  have key : ∀ (q m : Nat) (g : Hp), m + q = 6 → hI g = hI (cpl 1 16 opA h) → hL g = hL h → (∀ a t, ¬ (a = 21 ∧ t < m) → hR g a t = hR h a t) → (∀ t, t < m → hR g 21 t = hR h 6 t) → g.2.2.2 = h.2.2.2 → ∃ h1, lp (fun q : Int32 × Hp => s_State_copyFrom_16_1_74 q.1 q.2) (nI m, g) = some h1 ∧ CPY 1 16 h h1 := by
    intro q
    induction q with
    | zero =>
      intro m g hm e1 e2 e3 e4 e5
      have hm : m = 6 := by omega
      subst hm
      refine ⟨cpF 1 16 (cpl 1 16 opB g), lp_inr ?_, CPY_of (by decide) e1 e2 e3 e4 e5⟩
      show s_State_copyFrom_16_1_74 (nI 6) g = _
      unfold s_State_copyFrom_16_1_74
      rw [if_pos (show (6 : Int32) ≤ nI 6 by decide), cy_some (a := 7) (b := 22) (n := 6) (m := 6) (nd_of (by decide) rfl) (nd_of (by decide) rfl) rfl (by decide), lt_eq, cy_some (a := 8) (b := 23) (n := 6) (m := 6) (nd_of (by decide) rfl) (nd_of (by decide) rfl) rfl (by decide), lt_eq, cy_some (a := 9) (b := 24) (n := 40) (m := 40) (nd_of (by decide) rfl) (nd_of (by decide) rfl) rfl (by decide), lt_eq, cy_some (a := 10) (b := 25) (n := 6) (m := 6) (nd_of (by decide) rfl) (nd_of (by decide) rfl) rfl (by decide), lt_eq, cy_some (a := 11) (b := 26) (n := 6) (m := 6) (nd_of (by decide) rfl) (nd_of (by decide) rfl) rfl (by decide), lt_eq, cy_some (a := 12) (b := 27) (n := 6) (m := 6) (nd_of (by decide) rfl) (nd_of (by decide) rfl) rfl (by decide), lt_eq, cy_some (a := 13) (b := 28) (n := 12) (m := 12) (nd_of (by decide) rfl) (nd_of (by decide) rfl) rfl (by decide), lt_eq, cy_some (a := 14) (b := 29) (n := 12) (m := 12) (nd_of (by decide) rfl) (nd_of (by decide) rfl) rfl (by decide), lt_eq, lt_eq, lt_eq, lt_eq, lt_eq, lt_eq]
      have n : ∀ (x : Hp) (k q : Nat) (v : Int32), hI (sI x 16 k v) 1 q = hI x 1 q := fun x k q v => by rw [hI_sI_ne (by decide)]
      rw [n, n, n, n, n, n, n, n, n, n, n, n, n, n, n]
      rfl
    | succ q ih =>
      intro m g hm e1 e2 e3 e4 e5
      have kdg : ∀ r, kd g r = kd h r := fun r => by unfold kd hD; rw [e5]
      have nidg : nid g = nid h := by unfold nid hN; rw [e5]
      have slot : hR g 6 m = hR h 6 m := e3 6 m (by omega)
      obtain ⟨h1, a1, a2⟩ := ih (m + 1) (sR g 21 m (hR h 6 m)) (by omega) e1 e2 (fun a t z => by
        rw [hR_sR', if_neg (by omega)]; exact e3 a t (by omega)) (fun t ht => by
        rw [hR_sR']
        by_cases z : t = m
        · rw [if_pos ⟨rfl, z⟩, z]
        · rw [if_neg (fun y => z y.2)]; exact e4 t (by omega)) e5
      refine ⟨h1, ?_, a2⟩
      rw [lp_inl (s' := (nI (m + 1), sR g 21 m (hR h 6 m))) ?_]
      · exact a1
      · show s_State_copyFrom_16_1_74 (nI m) g = _
        unfold s_State_copyFrom_16_1_74
        rw [if_neg (by rw [show (6 : Int32) = nI 6 from rfl, nI_leI (by decide) (by omega)]; omega), ib_nI (by omega) (by decide), ib_nI (by omega) (by decide), show ix (nI m) = m from nI_clamp (by omega), slot, oq_some (fun r hr => ?_), nI_1]
        obtain ⟨z1, z2⟩ := rw0.2.2.2.2.2.2 6 m r (by decide) (by omega) hr
        exact ⟨(kdg r).trans z2.1, by rw [nidg]; exact z2.2⟩
  obtain ⟨h1, a1, a2⟩ := key 6 0 (cpl 1 16 opA h) (by decide) rfl (by unfold hL; rw [tA]) (fun a t _ => rA a t) (fun t ht => absurd ht (by omega)) (by rw [tA])
  exact ⟨h1, hA.trans a1, a2⟩
theorem p_copy30_1 {h : Hp} (rw0 : RW h) : ∃ h1, s_State_copyFrom_30_1 h = some h1 ∧ CPY 1 30 h h1 := by
  have hA : s_State_copyFrom_30_1 h = lp (fun q : Int32 × Hp => s_State_copyFrom_30_1_74 q.1 q.2) (0, cpl 1 30 opA h) := by
    unfold s_State_copyFrom_30_1
    rw [cy_some (a := 2) (b := 31) (n := 6) (m := 6) (nd_of (by decide) rfl) (nd_of (by decide) rfl) rfl (by decide), lt_eq, cy_some (a := 3) (b := 32) (n := 24) (m := 24) (nd_of (by decide) rfl) (nd_of (by decide) rfl) rfl (by decide), lt_eq, cy_some (a := 4) (b := 33) (n := 11) (m := 11) (nd_of (by decide) rfl) (nd_of (by decide) rfl) rfl (by decide), lt_eq, cy_some (a := 5) (b := 34) (n := 50) (m := 50) (nd_of (by decide) rfl) (nd_of (by decide) rfl) rfl (by decide)]
    rfl
  have tA : (cpl 1 30 opA h).2 = h.2 := cpl_2 1 30 opA h
  have rA : ∀ a t, hR (cpl 1 30 opA h) a t = hR h a t := fun a t => by unfold hR; rw [tA]
  have key : ∀ (q m : Nat) (g : Hp), m + q = 6 → hI g = hI (cpl 1 30 opA h) → hL g = hL h → (∀ a t, ¬ (a = 35 ∧ t < m) → hR g a t = hR h a t) → (∀ t, t < m → hR g 35 t = hR h 6 t) → g.2.2.2 = h.2.2.2 → ∃ h1, lp (fun q : Int32 × Hp => s_State_copyFrom_30_1_74 q.1 q.2) (nI m, g) = some h1 ∧ CPY 1 30 h h1 := by
    intro q
    induction q with
    | zero =>
      intro m g hm e1 e2 e3 e4 e5
      have hm : m = 6 := by omega
      subst hm
      refine ⟨cpF 1 30 (cpl 1 30 opB g), lp_inr ?_, CPY_of (by decide) e1 e2 e3 e4 e5⟩
      show s_State_copyFrom_30_1_74 (nI 6) g = _
      unfold s_State_copyFrom_30_1_74
      rw [if_pos (show (6 : Int32) ≤ nI 6 by decide), cy_some (a := 7) (b := 36) (n := 6) (m := 6) (nd_of (by decide) rfl) (nd_of (by decide) rfl) rfl (by decide), lt_eq, cy_some (a := 8) (b := 37) (n := 6) (m := 6) (nd_of (by decide) rfl) (nd_of (by decide) rfl) rfl (by decide), lt_eq, cy_some (a := 9) (b := 38) (n := 40) (m := 40) (nd_of (by decide) rfl) (nd_of (by decide) rfl) rfl (by decide), lt_eq, cy_some (a := 10) (b := 39) (n := 6) (m := 6) (nd_of (by decide) rfl) (nd_of (by decide) rfl) rfl (by decide), lt_eq, cy_some (a := 11) (b := 40) (n := 6) (m := 6) (nd_of (by decide) rfl) (nd_of (by decide) rfl) rfl (by decide), lt_eq, cy_some (a := 12) (b := 41) (n := 6) (m := 6) (nd_of (by decide) rfl) (nd_of (by decide) rfl) rfl (by decide), lt_eq, cy_some (a := 13) (b := 42) (n := 12) (m := 12) (nd_of (by decide) rfl) (nd_of (by decide) rfl) rfl (by decide), lt_eq, cy_some (a := 14) (b := 43) (n := 12) (m := 12) (nd_of (by decide) rfl) (nd_of (by decide) rfl) rfl (by decide), lt_eq, lt_eq, lt_eq, lt_eq, lt_eq, lt_eq]
      have n : ∀ (x : Hp) (k q : Nat) (v : Int32), hI (sI x 30 k v) 1 q = hI x 1 q := fun x k q v => by rw [hI_sI_ne (by decide)]
      rw [n, n, n, n, n, n, n, n, n, n, n, n, n, n, n]
      rfl
    | succ q ih =>
      intro m g hm e1 e2 e3 e4 e5
      have kdg : ∀ r, kd g r = kd h r := fun r => by unfold kd hD; rw [e5]
      have nidg : nid g = nid h := by unfold nid hN; rw [e5]
      have slot : hR g 6 m = hR h 6 m := e3 6 m (by omega)
      obtain ⟨h1, a1, a2⟩ := ih (m + 1) (sR g 35 m (hR h 6 m)) (by omega) e1 e2 (fun a t z => by
        rw [hR_sR', if_neg (by omega)]; exact e3 a t (by omega)) (fun t ht => by
        rw [hR_sR']
        by_cases z : t = m
        · rw [if_pos ⟨rfl, z⟩, z]
        · rw [if_neg (fun y => z y.2)]; exact e4 t (by omega)) e5
      refine ⟨h1, ?_, a2⟩
      rw [lp_inl (s' := (nI (m + 1), sR g 35 m (hR h 6 m))) ?_]
      · exact a1
      · show s_State_copyFrom_30_1_74 (nI m) g = _
        unfold s_State_copyFrom_30_1_74
        rw [if_neg (by rw [show (6 : Int32) = nI 6 from rfl, nI_leI (by decide) (by omega)]; omega), ib_nI (by omega) (by decide), ib_nI (by omega) (by decide), show ix (nI m) = m from nI_clamp (by omega), slot, oq_some (fun r hr => ?_), nI_1]
        obtain ⟨z1, z2⟩ := rw0.2.2.2.2.2.2 6 m r (by decide) (by omega) hr
        exact ⟨(kdg r).trans z2.1, by rw [nidg]; exact z2.2⟩
  obtain ⟨h1, a1, a2⟩ := key 6 0 (cpl 1 30 opA h) (by decide) rfl (by unfold hL; rw [tA]) (fun a t _ => rA a t) (fun t ht => absurd ht (by omega)) (by rw [tA])
  exact ⟨h1, hA.trans a1, a2⟩
