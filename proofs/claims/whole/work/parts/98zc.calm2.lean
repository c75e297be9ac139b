/-! ways: calmest, the class's offers -/
theorem toC_inj {c i j d : Nat} (hc : c < 50) (hi : i < 5) (hj : j < 5) (e1 : toC c i = some d) (e2 : toC c j = some d) : i = j := by
  have h1 : i = 0 ∨ i = 1 ∨ i = 2 ∨ i = 3 ∨ i = 4 := by omega
  have h2 : j = 0 ∨ j = 1 ∨ j = 2 ∨ j = 3 ∨ j = 4 := by omega
  have f0 : toC c 0 = some c := rfl
  have f1 : toC c 1 = if c % 10 = 9 then none else some (c + 1) := rfl
  have f2 : toC c 2 = if c % 10 = 0 then none else some (c - 1) := rfl
  have f3 : toC c 3 = if c + 10 < 50 then some (c + 10) else none := rfl
  have f4 : toC c 4 = if c < 10 then none else some (c - 10) := rfl
  have val : ∀ i, i < 5 → toC c i = some d → (i = 0 ∧ d = c) ∨ (i = 1 ∧ d = c + 1) ∨ (i = 2 ∧ d + 1 = c) ∨ (i = 3 ∧ d = c + 10) ∨ (i = 4 ∧ d + 10 = c) := fun i hi e => by
    have h1 : i = 0 ∨ i = 1 ∨ i = 2 ∨ i = 3 ∨ i = 4 := by omega
    rcases h1 with rfl | rfl | rfl | rfl | rfl
    · rw [f0] at e; cases e; omega
    · rw [f1] at e
      split at e
      · cases e
      · cases e; omega
    · rw [f2] at e
      split at e
      · cases e
      · cases e; omega
    · rw [f3] at e
      split at e
      · cases e; omega
      · cases e
    · rw [f4] at e
      split at e
      · cases e
      · cases e; omega
  have v1 := val i hi e1
  have v2 := val j hj e2
  omega
theorem ed_one {T : TF} {K : Nat → Int32} {b s c d j : Nat} (rg : Rg K) (hs : s + 1 < 144) (hc : c < 50) (hj : j < 5) (e : toC c j = some d) : ed T K b s c d ↔ beh T K b c s j 0 = some d := by
  constructor
  · rintro ⟨mv, h1, h2⟩
    have := ((beh_e rg hs hc).mp h2).1
    rw [toC_inj hc hj h1 e this]
    exact h2
  · intro z
    exact ⟨j, hj, z⟩
theorem beh_none {T : TF} {K : Nat → Int32} {b s c d j : Nat} (e : toC c j = some d) (h : ¬ beh T K b c s j 0 = some d) : beh T K b c s j 0 = none := by
  cases z : beh T K b c s j 0 with
  | none => rfl
  | some x =>
    exfalso
    apply h
    rw [z]
    unfold beh at z
    rw [e] at z
    have z : (if s + 1 < 144 then (if mayG K j (fa (mk pF K) (td0 T (mk pF K)) (K (41 + c)) (mnS s 0)) (K (91 + 2 * b)) && canB T K b d (mnS (s + 1) 0) then some d else none) else none) = some x := z
    split at z
    · split at z
      · exact z.symm ▸ rfl
      · cases z
    · cases z
theorem beh_toC {T : TF} {K : Nat → Int32} {b s c j : Nat} (e : toC c j = none) : beh T K b c s j 0 = none := by
  unfold beh
  rw [e]
def CRr (r : Nat) (F : Nat → Nat) (g : Hp) : Prop := ∀ c, c < 50 → hI g r c = nI (F c)
def s678 (j : Nat) : Bool := decide (j = 67) || decide (j = 68)
theorem WX_678 {τ : Nat → TF} {K : Nat → Int32} {b : Nat} {h g : Hp} (X : WX τ K b h) (E : eqO s678 h g) : WX τ K b g := by
  obtain ⟨x1, x2, x3⟩ := X
  have no : ∀ j, j ≠ 67 → j ≠ 68 → s678 j = false := fun j h1 h2 => by
    unfold s678
    rw [decide_eq_false h1, decide_eq_false h2]; rfl
  have f : ∀ j, j ≠ 67 → j ≠ 68 → hI g j = hI h j ∧ hL g j = hL h j := fun j h1 h2 => E.2 j (no j h1 h2)
  refine ⟨TX_wy x1 (eqO_mono E (fun j hj => no j (by have := sWy_of hj; omega) (by have := sWy_of hj; omega))) ?_, ?_, fun s hs => ?_⟩
  · have c := x1.1.1.2.2.2.1.2.2.2.2.2.2.1
    unfold C58; rw [(f 58 (by decide) (by decide)).1, (f 59 (by decide) (by decide)).1, (f 60 (by decide) (by decide)).1]; exact c
  · unfold SWf; rw [(f 59 (by decide) (by decide)).1, (f 60 (by decide) (by decide)).1]; exact x2
  · have := x3 s hs
    unfold SVs at this ⊢
    rw [(f 62 (by decide) (by decide)).2, (f 63 (by decide) (by decide)).2, (f 64 (by decide) (by decide)).2, (f 65 (by decide) (by decide)).2]
    exact this
theorem p_whiteAt {τ : Nat → TF} {K : Nat → Int32} {b c s : Nat} {g : Hp} (X : WX τ K b g) (hc : c < 50) (hs : s < 144) : s_Ways_whiteAt (nI c) (nI s) g = some (nI (whN (tin τ K) K c s)) := by
  obtain ⟨k6, ek⟩ := kCl_e X.1.1.1.2.1 hc
  have e5 : hI g 5 c = nI (kCl K c) := (StP_at X.1.1.1.1 (by omega) (pl_kind c hc)).trans ek
  have e60 := (X.2.1 s (kCl K c) hs k6).2
  rw [← ek] at e60
  unfold s_Ways_whiteAt
  rw [ib_nI hc (by decide), show ix (nI c) = c from nI_clamp (by omega), e5, show nI s * 6 + nI (kCl K c) = nI (6 * s + kCl K c) by rw [show (6 : Int32) = nI 6 from rfl, nI_mul, nI_add, Nat.mul_comm], ib_nI (by omega) (by decide), show ix (nI (6 * s + kCl K c)) = 6 * s + kCl K c from nI_clamp (by omega), e60, (whN_e (tin τ K) K c s).2]
theorem p_offer {τ : Nat → TF} {K : Nat → Int32} {b c s v r B : Nat} {g : Hp} {F : Nat → Nat} (X : WX τ K b g) (hc : c < 50) (hs : s + 1 < 144) (k1 : 1 ≤ kCl K c) (hr : r = 67 ∨ r = 68) (hv : v + 100 ≤ B) (hB : B ≤ 100000) (hF : sB B F) (C : CRr r F g) : ∃ g2, s_Ways_offer (nI v) (nI c) (nI s) r g = some g2 ∧ eqO (fun j => decide (j = r)) g g2 ∧ CRr r (ofF (tin τ K) K b s c v 5 F) g2 := by
  have rg := X.1.1.1.2.1
  have n0 : nd g r 0 50 := by rcases hr with rfl | rfl <;> exact nd_of (by decide) rfl
  obtain ⟨w, w1, w2, w3⟩ := p_reached X hs (v := z_lshl 1 (nI c)) (hiz_one hc) (fun x hx z => by
    rw [bt_one hc hx, decide_eq_true_eq] at z
    rw [← z]; exact k1)
  have w4 : ∀ d, d < 50 → (bt w d = true ↔ ed (tin τ K) K b s c d) := fun d hd => by
    rw [w3 d hd]
    constructor
    · rintro ⟨x, x1, x2, x3⟩
      rw [bt_one hc x1, decide_eq_true_eq] at x2
      rw [x2]; exact x3
    · intro z
      exact ⟨c, hc, by rw [bt_one hc hc]; exact decide_eq_true rfl, z⟩
  have loop : ∀ (q j : Nat) (g1 : Hp), j + q = 5 → eqO (fun j => decide (j = r)) g g1 → CRr r (ofF (tin τ K) K b s c v j F) g1 → ∃ g2, lp (fun q : Int32 × Int32 × Int32 × Nat × Int64 × Int32 × Hp => s_Ways_offer_13 q.1 q.2.1 q.2.2.1 q.2.2.2.1 q.2.2.2.2.1 q.2.2.2.2.2.1 q.2.2.2.2.2.2) (nI v, nI c, nI s, r, w, nI j, g1) = some g2 ∧ eqO (fun j => decide (j = r)) g g2 ∧ CRr r (ofF (tin τ K) K b s c v 5 F) g2 := by
    intro q
    induction q with
    | zero =>
      intro j g1 hj E R
      have hj : j = 5 := by omega
      subst hj
      refine ⟨g1, lp_inr ?_, E, R⟩
      show s_Ways_offer_13 (nI v) (nI c) (nI s) r w (nI 5) g1 = _
      unfold s_Ways_offer_13
      rw [if_pos (show (4 : Int32) < nI 5 by decide)]
    | succ q ih =>
      intro j g1 hj E R
      have X1 : WX τ K b g1 := WX_678 X (eqO_mono E (fun i hi => decide_eq_false (fun z => by subst z; rcases hr with rfl | rfl <;> cases hi)))
      have n1 : nd g1 r 0 50 := nd_eq E.1 n0
      have e67 : ∀ g2, s_Ways_offer_67 (nI v) (nI c) (nI s) r w (nI j) g2 = some (.inl (nI v, nI c, nI s, r, w, nI (j + 1), g2)) := fun g2 => by
        unfold s_Ways_offer_67
        rw [nI_1]
      have e13 : s_Ways_offer_13 (nI v) (nI c) (nI s) r w (nI j) g1 = match beh (tin τ K) K b c s j 0 with
          | none => some (.inl (nI v, nI c, nI s, r, w, nI (j + 1), g1))
          | some d => some (.inl (nI v, nI c, nI s, r, w, nI (j + 1), sI g1 r d (nI (min (ofF (tin τ K) K b s c v j F d) (v + whN (tin τ K) K d (s + 1)))))) := by
        unfold s_Ways_offer_13
        rw [if_neg (by rw [show (4 : Int32) = nI 4 from rfl, nI_ltI (by decide) (by omega)]; omega), p_cellBy hc (by omega), Option.bind_some]
        cases e : toC c j with
        | none =>
          rw [if_pos (show oI none = -1 from rfl), beh_toC e]
          exact e67 g1
        | some d =>
          have hd := toC_lt hc e
          have wb := (whN_e (tin τ K) K d (s + 1)).1
          rw [show oI (some d) = nI d from rfl, if_neg (nI_m1 (by omega)), p_has w hd, Option.bind_some]
          cases hw : bt w d
          · have : ¬ beh (tin τ K) K b c s j 0 = some d := fun z => by
              have := (w4 d hd).mpr ⟨j, by omega, z⟩
              rw [hw] at this; cases this
            rw [if_pos (show (if false = true then (1 : Int32) else 0) = 0 by decide), beh_none e this]
            exact e67 g1
          · have := (ed_one rg hs hc (by omega) e).mp ((w4 d hd).mp hw)
            have fb := ofF_b (T := tin τ K) (K := K) (b := b) (s := s) (c := c) hv hB hF j d
            rw [if_neg (show ¬ (if true = true then (1 : Int32) else 0) = 0 by decide), this, ak_some n1, ln_of n1, ib_nI hd (by decide), nI_1, p_whiteAt X1 hd hs, Option.bind_some, ak_some n1, ib_nI hd (by decide), show ix (nI d) = d from nI_clamp (by omega), R d hd, nI_add, z_min_nI (by omega) (by omega)]
            exact e67 _
      cases eb : beh (tin τ K) K b c s j 0 with
      | none =>
        rw [eb] at e13
        rw [lp_inl e13]
        refine ih (j + 1) g1 (by omega) E (fun x hx => ?_)
        rw [ofF, eb]
        exact R x hx
      | some d =>
        rw [eb] at e13
        rw [lp_inl e13]
        refine ih (j + 1) _ (by omega) (eqO_sI E (decide_eq_true rfl)) (fun x hx => ?_)
        rw [ofF, eb, hI_sI']
        show _ = nI (if x = d then min (ofF (tin τ K) K b s c v j F d) (v + whN (tin τ K) K d (s + 1)) else ofF (tin τ K) K b s c v j F x)
        by_cases z : x = d
        · rw [if_pos ⟨rfl, z⟩, if_pos z]
        · rw [if_neg (fun y => z y.2), if_neg z]
          exact R x hx
  unfold s_Ways_offer
  rw [w1, Option.bind_some]
  exact loop 5 0 g (by omega) (eqO_refl _ _) C
