/-! image, back: the calls -/
theorem kd_of2 {h h2 : Hp} (e : h2.2.2.2 = h.2.2.2) (r : Nat) : kd h2 r = kd h r := by unfold kd hD; rw [e]
theorem nid_of2 {h h2 : Hp} (e : h2.2.2.2 = h.2.2.2) : nid h2 = nid h := by unfold nid hN; rw [e]
theorem nd_of2 {h h2 : Hp} (e : h2.2.2.2 = h.2.2.2) {r t n : Nat} (H : nd h r t n) : nd h2 r t n := by unfold nd; rw [kd_of2 e, nid_of2 e]; exact H
theorem ClsT_dyn {h h2 : Hp} {r : Nat} {T : TF} (e : h2.2.2.2 = h.2.2.2) (f : ∀ r, NS ≤ r → hI h2 r = hI h r ∧ hR h2 r = hR h r) (H : ClsT h r T) : ClsT h2 r T := by
  obtain ⟨h1, h0, a, b, na, nb, e1, e2, l1, l2, n1, n2, s1, s2, c⟩ := H
  have rf_ : ∀ k, rf h2 r k = rf h r k := fun k => by unfold rf; rw [(f r h0).2]
  refine ⟨nd_of2 e h1, h0, a, b, na, nb, by rw [rf_]; exact e1, by rw [rf_]; exact e2, l1, l2, nd_of2 e n1, nd_of2 e n2, s1, s2, ?_⟩
  rw [(f a l1).1, (f b l2).1]
  exact c
theorem LW_dyn {h h2 : Hp} {s s2 : Nat} {τ : Nat → TF} {K K2 : Nat → Int32} (e : h2.2.2.2 = h.2.2.2) (f : ∀ r, NS ≤ r → hI h2 r = hI h r ∧ hR h2 r = hR h r) (hs : ∀ t, t < 6 → hR h2 (s2 + 5) t = hR h (s + 5) t) (eK : ∀ j, j < 4998 → K2 j = K j) (H : LW τ K h s) : LW τ K2 h2 s2 := by
  intro t h6 ht
  rw [eK 189 (by decide)] at ht
  obtain ⟨r, e1, e2, e3⟩ := H t h6 ht
  exact ⟨r, (hs t h6).trans e1, ClsT_dyn e f e2, RefT_eq e3 ⟨eK _ (by omega), fun i _ => ⟨eK _ (by omega), eK _ (by omega)⟩⟩⟩
theorem StP_K {K K2 : Nat → Int32} {h : Hp} {s : Nat} (e : ∀ j, j < 4998 → K2 j = K j) (H : StP K h s) : StP K2 h s := fun j hj => by rw [e j (by omega)]; exact H j hj
theorem Rg_K {K K2 : Nat → Int32} (e : ∀ j, j < 4998 → K2 j = K j) (H : Rg K) : Rg K2 := by
  refine ⟨fun j hj => by rw [e j (by omega)]; exact H.1 j hj, by rw [e 190 (by decide), e 189 (by decide)]; exact H.2.1, fun s hs hm => ?_⟩
  rw [e 186 (by decide)] at hm
  rw [e _ (by omega)]
  exact H.2.2 s hs hm
theorem SM_dyn {h h2 : Hp} {s : Nat} {τ : Nat → TF} {K K2 : Nat → Int32} (e : h2.2.2.2 = h.2.2.2) (f : ∀ r, NS ≤ r → hI h2 r = hI h r ∧ hR h2 r = hR h r) (hn : ∀ d, d < 14 → hI h2 (s + d) = hI h (s + d)) (hs : ∀ t, t < 6 → hR h2 (s + 5) t = hR h (s + 5) t) (eK : ∀ j, j < 4998 → K2 j = K j) (H : SM τ K h s) : SM τ K2 h2 s :=
  ⟨StP_K eK (StP_fr H.1 hn), Rg_K eK H.2.1, LW_dyn e f hs eK H.2.2⟩
theorem RW_dyn {h h2 : Hp} (e : h2.2.2.2 = h.2.2.2) (f5 : hR h2 50 = hR h 50) (f6 : hR h2 69 = hR h 69) (fs : ∀ j t, (j = 6 ∨ j = 21 ∨ j = 35) → t < 6 → ∃ i, (i = 6 ∨ i = 21 ∨ i = 35) ∧ hR h2 j t = hR h i t) (H : RW h) : RW h2 := by
  have hrw : ∀ o n, rw1 h o n → rw1 h2 o n := fun o n z r hr => ⟨(z r hr).1, nd_of2 e (z r hr).2⟩
  obtain ⟨w6, w7, w8, w9, d1, d2, d3⟩ := H
  unfold RW
  rw [f5, f6]
  refine ⟨hrw _ _ w6, hrw _ _ w7, hrw _ _ w8, hrw _ _ w9, d1, d2, fun j t r hj ht er => ?_⟩
  obtain ⟨i, hi, ei⟩ := fs j t hj ht
  rw [ei] at er
  exact ⟨(d3 i t r hi ht er).1, nd_of2 e (d3 i t r hi ht er).2⟩
theorem gdR_84 (g : Hp) (q : Nat) : hI (gdR g) 84 q = if q = 0 then 0 else if q = 1 then hI g 84 1 + 1 else hI g 84 q := by
  unfold gdR
  rw [hI_sI', hI_sI']
  by_cases z1 : q = 1
  · rw [if_pos ⟨rfl, z1⟩, if_neg (show ¬ q = 0 by omega), if_pos z1]
  · rw [if_neg (fun y => z1 y.2), if_neg z1]
    by_cases z0 : q = 0
    · rw [if_pos ⟨rfl, z0⟩, if_pos z0]
    · rw [if_neg (fun y => z0 y.2), if_neg z0]
theorem p_imageR {k : Nat} (hk : k < 2) (h : Hp) : ∃ h2, s_Mod_image (nI k) h = some (0, h2) ∧ eqO (fun j => decide (j = 84) || decide (j = 87) || decide (j = 88)) h h2 ∧ (∀ i, i < 4998 → hI h2 87 (4998 * k + i) = hI h 86 i) ∧ (∀ q, q < 4998 * k ∨ 4998 * k + 4998 ≤ q → hI h2 87 q = hI h 87 q) ∧ (∀ q, hI h2 88 q = if q = k then 1 else hI h 88 q) ∧ (∀ q, hI h2 84 q = if q = 0 then 0 else if q = 1 then hI h 84 1 + 1 else hI h 84 q) := by
  have key : ∀ (q m : Nat) (g : Hp), m + q = 4998 → eqO (fun j => decide (j = 87)) h g → (∀ i, i < m → hI g 87 (4998 * k + i) = hI h 86 i) → (∀ q, q < 4998 * k ∨ 4998 * k + 4998 ≤ q → hI g 87 q = hI h 87 q) → ∃ h2, lp (fun q : Int32 × Int32 × Hp => s_Mod_image_17 q.1 q.2.1 q.2.2) (nI k, nI m, g) = some (0, h2) ∧ eqO (fun j => decide (j = 84) || decide (j = 87) || decide (j = 88)) h h2 ∧ (∀ i, i < 4998 → hI h2 87 (4998 * k + i) = hI h 86 i) ∧ (∀ q, q < 4998 * k ∨ 4998 * k + 4998 ≤ q → hI h2 87 q = hI h 87 q) ∧ (∀ q, hI h2 88 q = if q = k then 1 else hI h 88 q) ∧ (∀ q, hI h2 84 q = if q = 0 then 0 else if q = 1 then hI h 84 1 + 1 else hI h 84 q) := by
    intro q
    induction q with
    | zero =>
      intro m g hm E e1 e2
      have hm : m = 4998 := by omega
      subst hm
      refine ⟨gdR (sI g 88 k 1), lp_inr ?_, ?_, fun i hi => ?_, fun q hq => ?_, fun q => ?_, fun q => ?_⟩
      · show s_Mod_image_17 (nI k) (nI 4998) g = _
        unfold s_Mod_image_17
        rw [if_pos (show (4998 : Int32) ≤ nI 4998 by decide), ib_nI hk (by decide), show ix (nI k) = k from nI_clamp (by omega), show z_nz 1 = 1 from rfl, p_goodR, Option.bind_some]
      · unfold gdR
        refine eqO_sI (eqO_sI (eqO_sI (eqO_mono E (fun j hj => ?_)) (by decide)) (by decide)) (by decide)
        simp only [Bool.or_eq_false_iff] at hj
        exact hj.1.2
      · unfold gdR
        rw [hI_sI_ne (by decide), hI_sI_ne (by decide), hI_sI_ne (by decide)]
        exact e1 i hi
      · unfold gdR
        rw [hI_sI_ne (by decide), hI_sI_ne (by decide), hI_sI_ne (by decide)]
        exact e2 q hq
      · unfold gdR
        rw [hI_sI_ne (by decide), hI_sI_ne (by decide), hI_sI', (E.2 88 (by decide)).1]
        by_cases z : q = k
        · rw [if_pos ⟨rfl, z⟩, if_pos z]
        · rw [if_neg (fun y => z y.2), if_neg z]
      · rw [gdR_84, hI_sI_ne (show 84 ≠ 88 by decide), (E.2 84 (by decide)).1]
    | succ q ih =>
      intro m g hm E e1 e2
      obtain ⟨h2, a1, a2⟩ := ih (m + 1) (sI g 87 (4998 * k + m) (hI h 86 m)) (by omega) (eqO_sI E (by decide)) (fun i hi => by
        rw [hI_sI']
        by_cases z : i = m
        · rw [if_pos ⟨rfl, by omega⟩, z]
        · rw [if_neg (by omega)]; exact e1 i (by omega)) (fun q hq => by
        rw [hI_sI', if_neg (by omega)]; exact e2 q hq)
      refine ⟨h2, ?_, a2⟩
      rw [lp_inl (s' := (nI k, nI (m + 1), sI g 87 (4998 * k + m) (hI h 86 m))) ?_]
      · exact a1
      · show s_Mod_image_17 (nI k) (nI m) g = _
        unfold s_Mod_image_17
        rw [if_neg (by rw [show (4998 : Int32) = nI 4998 from rfl, nI_leI (by decide) (by omega)]; omega), ib_nI (by omega) (by decide), show (4998 : Int32) = nI 4998 from rfl, nI_mul, nI_add, ib_nI (by omega) (by decide), show ix (nI (4998 * k + m)) = 4998 * k + m from nI_clamp (by omega), show ix (nI m) = m from nI_clamp (by omega), nI_1, (E.2 86 (by decide)).1]
  obtain ⟨h2, a1, a2⟩ := key 4998 0 h (by decide) (eqO_refl _ _) (fun i hi => absurd hi (by omega)) (fun _ _ => rfl)
  refine ⟨h2, ?_, a2⟩
  have w : wi (nI k) 0 1 = 1 := wi_nI (b := 1) (by omega) (by decide)
  unfold s_Mod_image
  rw [p_lies, Option.bind_some, w, if_neg (by decide)]
  exact a1
theorem p_backR {k : Nat} (hk : k < 2) (h : Hp) (h1 : hI h 88 k = 1) : ∃ h2, s_Mod_back (nI k) h = some (0, h2) ∧ eqO (fun j => decide (j = 84) || decide (j = 86)) h h2 ∧ (∀ i, i < 4998 → hI h2 86 i = hI h 87 (4998 * k + i)) ∧ (∀ q, hI h2 84 q = if q = 0 then 0 else if q = 1 then hI h 84 1 + 1 else hI h 84 q) := by
  have key : ∀ (q m : Nat) (g : Hp), m + q = 4998 → eqO (fun j => decide (j = 86)) h g → (∀ i, i < m → hI g 86 i = hI h 87 (4998 * k + i)) → ∃ h2, lp (fun q : Int32 × Int32 × Hp => s_Mod_back_33 q.1 q.2.1 q.2.2) (nI k, nI m, g) = some (0, h2) ∧ eqO (fun j => decide (j = 84) || decide (j = 86)) h h2 ∧ (∀ i, i < 4998 → hI h2 86 i = hI h 87 (4998 * k + i)) ∧ (∀ q, hI h2 84 q = if q = 0 then 0 else if q = 1 then hI h 84 1 + 1 else hI h 84 q) := by
    intro q
    induction q with
    | zero =>
      intro m g hm E e1
      have hm : m = 4998 := by omega
      subst hm
      refine ⟨gdR g, lp_inr ?_, ?_, fun i hi => ?_, fun q => ?_⟩
      · show s_Mod_back_33 (nI k) (nI 4998) g = _
        unfold s_Mod_back_33
        rw [if_pos (show (4998 : Int32) ≤ nI 4998 by decide), p_goodR, Option.bind_some]
      · unfold gdR
        refine eqO_sI (eqO_sI (eqO_mono E (fun j hj => ?_)) (by decide)) (by decide)
        simp only [Bool.or_eq_false_iff] at hj
        exact hj.2
      · unfold gdR
        rw [hI_sI_ne (by decide), hI_sI_ne (by decide)]
        exact e1 i hi
      · rw [gdR_84, (E.2 84 (by decide)).1]
    | succ q ih =>
      intro m g hm E e1
      obtain ⟨h2, a1, a2⟩ := ih (m + 1) (sI g 86 m (hI h 87 (4998 * k + m))) (by omega) (eqO_sI E (by decide)) (fun i hi => by
        rw [hI_sI']
        by_cases z : i = m
        · rw [if_pos ⟨rfl, z⟩, z]
        · rw [if_neg (fun y => z y.2)]; exact e1 i (by omega))
      refine ⟨h2, ?_, a2⟩
      rw [lp_inl (s' := (nI k, nI (m + 1), sI g 86 m (hI h 87 (4998 * k + m)))) ?_]
      · exact a1
      · show s_Mod_back_33 (nI k) (nI m) g = _
        unfold s_Mod_back_33
        rw [if_neg (by rw [show (4998 : Int32) = nI 4998 from rfl, nI_leI (by decide) (by omega)]; omega), show (4998 : Int32) = nI 4998 from rfl, nI_mul, nI_add, ib_nI (by omega) (by decide), ib_nI (by omega) (by decide), show ix (nI (4998 * k + m)) = 4998 * k + m from nI_clamp (by omega), show ix (nI m) = m from nI_clamp (by omega), nI_1, (E.2 87 (by decide)).1]
  obtain ⟨h2, a1, a2⟩ := key 4998 0 h (by decide) (eqO_refl _ _) (fun i hi => absurd hi (by omega))
  refine ⟨h2, ?_, a2⟩
  have w : wi (nI k) 0 1 = 1 := wi_nI (b := 1) (by omega) (by decide)
  unfold s_Mod_back
  rw [p_lies, Option.bind_some, w, if_neg (by decide), ib_nI hk (by decide), show ix (nI k) = k from nI_clamp (by omega), h1, if_neg (by decide)]
  exact a1
theorem CC_prim {T : TF} {K : Nat → Int32} {h h2 : Hp} (f : ∀ j, (50 ≤ j ∧ j ≤ 82) ∨ NS ≤ j → hI h2 j = hI h j ∧ hL h2 j = hL h j) (f5 : hR h2 50 = hR h 50) (rw_ : RW h) (H : CC T K h) : CC T K h2 := by
  have g : ∀ j, 50 ≤ j → j ≤ 82 → hI h2 j = hI h j := fun j a b => (f j (Or.inl ⟨a, b⟩)).1
  refine ⟨CF_eq (g 50 (by decide) (by decide)) (g 54 (by decide) (by decide)) (g 57 (by decide) (by decide)) (g 58 (by decide) (by decide)) (g 59 (by decide) (by decide)) (g 60 (by decide) (by decide)) (g 78 (by decide) (by decide)) (g 79 (by decide) (by decide)) (f 56 (Or.inl ⟨by decide, by decide⟩)).2 (by rw [f5]) (by rw [f5]) (fun r z => (f r (Or.inr (rw_.1 r z).1)).1) (fun r z => (f r (Or.inr (rw_.2.1 r z).1)).1) H.1, C69_eq (g 69 (by decide) (by decide)) (g 72 (by decide) (by decide)) (g 73 (by decide) (by decide)) rfl rfl H.2.1, C74_eq (g 74 (by decide) (by decide)) (g 77 (by decide) (by decide)) rfl H.2.2⟩
theorem image_ok {τ : Nat → Nat → TF} {n k : Nat} {h hc h2 : Hp} (hi : InvT τ n h) (hn : n < 512) (hk : k < 2) (C : CPY 1 (16 + 14 * k) h hc) (E : eqO (fun j => decide (j = 84) || decide (j = 87) || decide (j = 88)) (sI (sI hc 44 k 1) 0 12 0) h2) (r1 : ∀ i, i < 4998 → hI h2 87 (4998 * k + i) = hI (sI (sI hc 44 k 1) 0 12 0) 86 i) (r2 : ∀ q, q < 4998 * k ∨ 4998 * k + 4998 ≤ q → hI h2 87 q = hI (sI (sI hc 44 k 1) 0 12 0) 87 q) (r3 : ∀ q, hI h2 88 q = if q = k then 1 else hI (sI (sI hc 44 k 1) 0 12 0) 88 q) (r4 : ∀ q, hI h2 84 q = if q = 0 then 0 else if q = 1 then hI (sI (sI hc 44 k 1) 0 12 0) 84 1 + 1 else hI (sI (sI hc 44 k 1) 0 12 0) 84 q) : Inv (n + 1) h2 := by
  obtain ⟨sm, im, tp, ss, rw0, cc0, rc0, dr, rm, wd⟩ := hi
  obtain ⟨c1, c2, c3, c4, c5, c6⟩ := C
  have t3 : h2.2.2.2 = h.2.2.2 := by rw [E.1]; exact c6
  have noE : ∀ j, j ≠ 84 → j ≠ 87 → j ≠ 88 → (decide (j = 84) || decide (j = 87) || decide (j = 88)) = false := fun j a b c => by
    rw [decide_eq_false a, decide_eq_false b, decide_eq_false c]; rfl
  have g : ∀ j, j ≠ 0 → j ≠ 44 → j ≠ 84 → j ≠ 87 → j ≠ 88 → (j < 16 + 14 * k ∨ 16 + 14 * k + 14 ≤ j) → hI h2 j = hI h j := fun j h0 h44 h84 h87 h88 hr => by
    rw [(E.2 j (noE j h84 h87 h88)).1, hI_sI_ne h0, hI_sI_ne h44, c1 j hr]
  have hr2 : ∀ a t, ¬ (a = 16 + 14 * k + 5 ∧ t < 6) → hR h2 a t = hR h a t := fun a t z => by rw [hR_of E.1]; exact c4 a t z
  have hr3 : ∀ t, t < 6 → hR h2 (16 + 14 * k + 5) t = hR h 6 t := fun t ht => by rw [hR_of E.1]; exact c5 t ht
  have dyn : ∀ r, NS ≤ r → hI h2 r = hI h r ∧ hR h2 r = hR h r := fun r hr => by
    have : 114 ≤ r := hr
    exact ⟨g r (by omega) (by omega) (by omega) (by omega) (by omega) (by omega), funext fun t => hr2 r t (by omega)⟩
  have e86 : hI h2 86 = hI h 86 := g 86 (by decide) (by decide) (by decide) (by decide) (by decide) (by omega)
  have e86' : hI (sI (sI hc 44 k 1) 0 12 0) 86 = hI h 86 := by rw [hI_sI_ne (by decide), hI_sI_ne (by decide), c1 86 (by omega)]
  have e87' : hI (sI (sI hc 44 k 1) 0 12 0) 87 = hI h 87 := by rw [hI_sI_ne (by decide), hI_sI_ne (by decide), c1 87 (by omega)]
  have e88' : hI (sI (sI hc 44 k 1) 0 12 0) 88 = hI h 88 := by rw [hI_sI_ne (by decide), hI_sI_ne (by decide), c1 88 (by omega)]
  have e84' : hI (sI (sI hc 44 k 1) 0 12 0) 84 = hI h 84 := by rw [hI_sI_ne (by decide), hI_sI_ne (by decide), c1 84 (by omega)]
  rw [e86'] at r1
  rw [e87'] at r2
  rw [e88'] at r3
  rw [e84'] at r4
  have e44 : ∀ q, hI h2 44 q = if q = k then 1 else hI h 44 q := fun q => by
    rw [(E.2 44 (by decide)).1, hI_sI_ne (by decide), hI_sI', c1 44 (by omega)]
    by_cases z : q = k
    · rw [if_pos ⟨rfl, z⟩, if_pos z]
    · rw [if_neg (fun y => z y.2), if_neg z]
  have hr50 : hR h2 50 = hR h 50 := funext fun t => hr2 50 t (by omega)
  have hr69 : hR h2 69 = hR h 69 := funext fun t => hr2 69 t (by omega)
  refine ⟨fun i => if i = k + 1 then τ 0 else τ i, ?_⟩
  have et0 : (fun i => if i = k + 1 then τ 0 else τ i) 0 = τ 0 := if_neg (by omega)
  unfold InvT
  rw [et0, e86]
  refine ⟨SM_dyn t3 dyn (fun d hd => g _ (by omega) (by omega) (by omega) (by omega) (by omega) (by omega)) (fun t ht => hr2 6 t (by omega)) (fun _ _ => rfl) sm, fun i hi2 => ?_, TP_eq (g 45 (by decide) (by decide) (by decide) (by decide) (by decide) (by omega)) (g 46 (by decide) (by decide) (by decide) (by decide) (by decide) (by omega)) (g 90 (by decide) (by decide) (by decide) (by decide) (by decide) (by omega)) (by rw [r4, if_neg (by decide), if_neg (by decide)]) tp, ?_, RW_dyn t3 hr50 hr69 (fun j t hj ht => ?_) rw0, CC_prim (fun j hj => ?_) hr50 rw0 cc0, RC_bump rc0 hn (by rw [r4, if_neg (by decide), if_pos rfl]) (by rw [r4, if_neg (by decide), if_neg (by decide)]), ?_, RM_eq (h := h) (by unfold hN; rw [t3]; omega) (by unfold hS; rw [t3]; omega) rm, WD_eq (g 89 (by decide) (by decide) (by decide) (by decide) (by decide) (by omega)) wd⟩
  · by_cases z : i = k
    · subst z
      refine ⟨by rw [e44, r3, if_pos rfl, if_pos rfl], Or.inr ⟨by rw [e44, if_pos rfl], ?_⟩⟩
      show SM ((fun q => if q = i + 1 then τ 0 else τ q) (i + 1)) _ _ _
      rw [show (fun q => if q = i + 1 then τ 0 else τ q) (i + 1) = τ 0 from if_pos rfl]
      have eK : ∀ j, j < 4998 → (fun j => hI h2 87 (4998 * i + j)) j = hI h 86 j := fun j hj => r1 j hj
      refine ⟨StP_K eK (StP_fr (c3 (hI h 86) sm.1) (fun d hd => ?_)), Rg_K eK sm.2.1, LW_dyn t3 dyn hr3 eK sm.2.2⟩
      rw [(E.2 _ (noE _ (by omega) (by omega) (by omega))).1, hI_sI_ne (by omega), hI_sI_ne (by omega)]
    · obtain ⟨a1, a2⟩ := im i hi2
      rw [e44, if_neg z, r3, if_neg z]
      refine ⟨a1, ?_⟩
      rcases a2 with a2 | ⟨a2, a3⟩
      · exact Or.inl a2
      · refine Or.inr ⟨a2, ?_⟩
        show SM ((fun q => if q = k + 1 then τ 0 else τ q) (i + 1)) _ _ _
        rw [show (fun q => if q = k + 1 then τ 0 else τ q) (i + 1) = τ (i + 1) from if_neg (by omega)]
        exact SM_dyn t3 dyn (fun d hd => g _ (by omega) (by omega) (by omega) (by omega) (by omega) (by omega)) (fun t ht => hr2 _ t (by omega)) (fun j hj => r2 _ (by omega)) a3
  · unfold SS at ss ⊢
    have z : ∀ q, hI h2 0 q = if q = 12 then 0 else hI h 0 q := fun q => by
      rw [(E.2 0 (by decide)).1, hI_sI', hI_sI_ne (by decide), c1 0 (by omega)]
      by_cases y : q = 12
      · rw [if_pos ⟨rfl, y⟩, if_pos y]
      · rw [if_neg (fun x => y x.2), if_neg y]
    rw [z, z, z, if_pos rfl, if_neg (by decide), if_neg (by decide), r4, r4, r4, if_pos rfl, if_neg (by decide), if_neg (by decide), if_neg (by decide), if_neg (by decide), g 83 (by decide) (by decide) (by decide) (by decide) (by decide) (by omega), g 85 (by decide) (by decide) (by decide) (by decide) (by decide) (by omega)]
    exact ⟨rfl, ss.2⟩
  · by_cases z : j = 16 + 14 * k + 5
    · exact ⟨6, Or.inl rfl, by rw [z]; exact hr3 t ht⟩
    · exact ⟨j, hj, hr2 j t (fun y => z y.1)⟩
  · have hj2 : 50 ≤ j ∧ j ≠ 84 ∧ j ≠ 87 ∧ j ≠ 88 := by
      rcases hj with hj | hj
      · omega
      · have : 114 ≤ j := hj
        omega
    refine ⟨g j (by omega) (by omega) (by omega) (by omega) (by omega) (by omega), ?_⟩
    rw [(E.2 j (noE j (by omega) (by omega) (by omega))).2]
    show hL hc j = _
    rw [c2]
  · exact DR_eq (h := h) (by rw [hr50]) (by rw [r4, if_neg (by decide), if_neg (by decide)]) (g 113 (by decide) (by decide) (by decide) (by decide) (by decide) (by omega)) (fun r hr => (dyn r (rw0.2.2.1 r hr).1).1) dr
theorem Q_image (n : Nat) (x1 : Int32) (h : Hp) (hn : n < 512) (hi : Inv n h) : ∃ h2, q_image x1 h = some h2 ∧ Inv (n + 1) h2 := by
  obtain ⟨τ, hi⟩ := hi
  unfold q_image
  by_cases hw : wi x1 0 1 = 0
  · have e1 : s_Race_image x1 h = some (-1, rfC h (-1)) := by
      unfold s_Race_image
      rw [p_within, Option.bind_some, if_pos hw, p_refuse, Option.bind_some]
    have e2 : s_Mod_image x1 (rfC h (-1)) = some (-1, rfR (rfC h (-1)) (-1)) := by
      unfold s_Mod_image
      rw [p_lies, Option.bind_some, if_pos hw, p_refR _ (Or.inl rfl), Option.bind_some]
    rw [e1, Option.bind_some]
    show ∃ h2, ((s_Mod_image x1 (rfC h (-1))).bind fun w => if (-1 : Int32) = w.1 then some w.2 else none) = some h2 ∧ _
    rw [e2, Option.bind_some, if_pos rfl]
    exact ⟨_, rfl, τ, refuse_ok hi (Or.inl rfl)⟩
  · obtain ⟨k, hk, rfl⟩ := wi_nat (b := 1) (by decide) (wi_n0 hw)
    have rw0 := hi.2.2.2.2.1
    have e1 : ∃ hc, s_Race_image (nI k) h = some (0, sI (sI hc 44 k 1) 0 12 0) ∧ CPY 1 (16 + 14 * k) h hc := by
      unfold s_Race_image
      rw [p_within, Option.bind_some, if_neg hw, ib_nI (by omega) (by decide), show ix (nI k) = k from nI_clamp (by omega)]
      rcases (show k = 0 ∨ k = 1 by omega) with rfl | rfl
      · obtain ⟨hc, a1, a2⟩ := p_copy16_1 rw0
        refine ⟨hc, ?_, a2⟩
        rw [if_pos rfl, a1, Option.bind_some, ib_nI (by omega) (by decide), p_grant, Option.bind_some]
        rfl
      · obtain ⟨hc, a1, a2⟩ := p_copy30_1 rw0
        refine ⟨hc, ?_, a2⟩
        rw [if_neg (by decide), a1, Option.bind_some, ib_nI (by omega) (by decide), p_grant, Option.bind_some]
        rfl
    obtain ⟨hc, a1, a2⟩ := e1
    obtain ⟨h2, b1, b2, b3, b4, b5, b6⟩ := p_imageR (k := k) (by omega) (sI (sI hc 44 k 1) 0 12 0)
    rw [a1, Option.bind_some]
    show ∃ h2, ((s_Mod_image (nI k) (sI (sI hc 44 k 1) 0 12 0)).bind fun w => if (0 : Int32) = w.1 then some w.2 else none) = some h2 ∧ _
    rw [b1, Option.bind_some, if_pos rfl]
    exact ⟨_, rfl, image_ok hi hn (by omega) a2 b2 b3 b4 b5 b6⟩
theorem back_ok {τ : Nat → Nat → TF} {n k : Nat} {h hc h2 : Hp} (hi : InvT τ n h) (hn : n < 512) (hk : k < 2) (h1 : hI h 44 k = 1) (C : CPY (16 + 14 * k) 1 h hc) (E : eqO (fun j => decide (j = 84) || decide (j = 86)) (sI (fgL hc) 0 12 0) h2) (r1 : ∀ i, i < 4998 → hI h2 86 i = hI (sI (fgL hc) 0 12 0) 87 (4998 * k + i)) (r4 : ∀ q, hI h2 84 q = if q = 0 then 0 else if q = 1 then hI (sI (fgL hc) 0 12 0) 84 1 + 1 else hI (sI (fgL hc) 0 12 0) 84 q) : Inv (n + 1) h2 := by
  obtain ⟨sm, im, tp, ss, rw0, cc0, rc0, dr, rm, wd⟩ := hi
  obtain ⟨c1, c2, c3, c4, c5, c6⟩ := C
  have t3 : h2.2.2.2 = h.2.2.2 := by rw [E.1]; exact c6
  have noE : ∀ j, j ≠ 84 → j ≠ 86 → (decide (j = 84) || decide (j = 86)) = false := fun j a b => by
    rw [decide_eq_false a, decide_eq_false b]; rfl
  have fg : ∀ j, j < 50 ∨ 82 < j → hI (fgL hc) j = hI hc j := fun j hj => by
    unfold fgL
    rw [fgF_hI (by omega) (by omega) (by omega) (by omega) (by omega), hI_sI_ne (by omega)]
  have g : ∀ j, 15 ≤ j → (j < 50 ∨ 82 < j) → j ≠ 84 → j ≠ 86 → hI h2 j = hI h j := fun j h0 hj h84 h86 => by
    rw [(E.2 j (noE j h84 h86)).1, hI_sI_ne (by omega), fg j hj, c1 j (by omega)]
  have hr2 : ∀ a t, ¬ (a = 6 ∧ t < 6) → hR h2 a t = hR h a t := fun a t z => by rw [hR_of E.1]; exact c4 a t z
  have hr3 : ∀ t, t < 6 → hR h2 6 t = hR h (16 + 14 * k + 5) t := fun t ht => by rw [hR_of E.1]; exact c5 t ht
  have dyn : ∀ r, NS ≤ r → hI h2 r = hI h r ∧ hR h2 r = hR h r := fun r hr => by
    have : 114 ≤ r := hr
    exact ⟨g r (by omega) (by omega) (by omega) (by omega), funext fun t => hr2 r t (by omega)⟩
  have e87' : hI (sI (fgL hc) 0 12 0) 87 = hI h 87 := by rw [hI_sI_ne (by decide), fg 87 (by decide), c1 87 (by decide)]
  have e84' : hI (sI (fgL hc) 0 12 0) 84 = hI h 84 := by rw [hI_sI_ne (by decide), fg 84 (by decide), c1 84 (by decide)]
  rw [e87'] at r1
  rw [e84'] at r4
  have hr50 : hR h2 50 = hR h 50 := funext fun t => hr2 50 t (by omega)
  have hr69 : hR h2 69 = hR h 69 := funext fun t => hr2 69 t (by omega)
  obtain ⟨-, im2⟩ := im k hk
  have smk : SM (τ (k + 1)) (fun j => hI h 87 (4998 * k + j)) h (16 + 14 * k) := by
    rcases im2 with z | z
    · rw [h1] at z; cases z
    · exact z.2
  refine ⟨fun i => if i = 0 then τ (k + 1) else τ i, ?_⟩
  have et0 : (fun i => if i = 0 then τ (k + 1) else τ i) 0 = τ (k + 1) := if_pos rfl
  unfold InvT
  rw [et0]
  refine ⟨⟨StP_K r1 (StP_fr (c3 _ smk.1) (fun d hd => ?_)), Rg_K r1 smk.2.1, LW_dyn t3 dyn hr3 r1 smk.2.2⟩, fun i hi2 => ?_, TP_eq (g 45 (by decide) (by decide) (by decide) (by decide)) (g 46 (by decide) (by decide) (by decide) (by decide)) (g 90 (by decide) (by decide) (by decide) (by decide)) (by rw [r4, if_neg (by decide), if_neg (by decide)]) tp, ?_, RW_dyn t3 hr50 hr69 (fun j t hj ht => ?_) rw0, ?_, RC_bump rc0 hn (by rw [r4, if_neg (by decide), if_pos rfl]) (by rw [r4, if_neg (by decide), if_neg (by decide)]), ?_, RM_eq (h := h) (by unfold hN; rw [t3]; omega) (by unfold hS; rw [t3]; omega) rm, WD_eq (g 89 (by decide) (by decide) (by decide) (by decide)) wd⟩
  · rw [(E.2 (1 + d) (noE _ (by omega) (by omega))).1, hI_sI_ne (by omega), fg _ (by omega)]
  · obtain ⟨a1, a2⟩ := im i hi2
    rw [g 44 (by decide) (by decide) (by decide) (by decide), g 88 (by decide) (by decide) (by decide) (by decide), g 87 (by decide) (by decide) (by decide) (by decide)]
    refine ⟨a1, ?_⟩
    rcases a2 with a2 | ⟨a2, a3⟩
    · exact Or.inl a2
    · refine Or.inr ⟨a2, ?_⟩
      show SM ((fun q => if q = 0 then τ (k + 1) else τ q) (i + 1)) _ _ _
      rw [show (fun q => if q = 0 then τ (k + 1) else τ q) (i + 1) = τ (i + 1) from if_neg (by omega)]
      exact SM_dyn t3 dyn (fun d hd => g _ (by omega) (by omega) (by omega) (by omega)) (fun t ht => hr2 _ t (by omega)) (fun j hj => rfl) a3
  · unfold SS at ss ⊢
    have z : ∀ q, hI h2 0 q = if q = 12 then 0 else hI h 0 q := fun q => by
      rw [(E.2 0 (by decide)).1, hI_sI', fg 0 (by decide), c1 0 (by decide)]
      by_cases y : q = 12
      · rw [if_pos ⟨rfl, y⟩, if_pos y]
      · rw [if_neg (fun x => y x.2), if_neg y]
    rw [z, z, z, if_pos rfl, if_neg (by decide), if_neg (by decide), r4, r4, r4, if_pos rfl, if_neg (by decide), if_neg (by decide), if_neg (by decide), if_neg (by decide), g 83 (by decide) (by decide) (by decide) (by decide), g 85 (by decide) (by decide) (by decide) (by decide)]
    exact ⟨rfl, ss.2⟩
  · by_cases z : j = 6
    · exact ⟨16 + 14 * k + 5, by omega, by rw [z]; exact hr3 t ht⟩
    · exact ⟨j, hj, hr2 j t (fun y => z y.1)⟩
  · have nE : ∀ j, 50 ≤ j ∧ j ≤ 82 → hI h2 j = hI (fgL hc) j ∧ hL h2 j = hL (fgL hc) j := fun j hj => ⟨by rw [(E.2 j (noE j (by omega) (by omega))).1, hI_sI_ne (by omega)], (E.2 j (noE j (by omega) (by omega))).2⟩
    have f : ∀ j, 50 ≤ j ∧ j ≤ 82 → hI h2 j = hI (fgL hc) j := fun j hj => (nE j hj).1
    refine CC_old (Or.inl ?_) ?_ ?_ ?_ ?_ (fun q hq => ?_) ?_ ?_ ?_ ?_
    · rw [f 50 (by decide)]; simp [fgL, fgF, fgW, hI_sI', hI_wL]
    · rw [f 50 (by decide)]; simp [fgL, fgF, fgW, hI_sI', hI_wL]
    · rw [f 50 (by decide)]; simp [fgL, fgF, fgW, hI_sI', hI_wL]
    · rw [f 50 (by decide)]; simp [fgL, fgF, fgW, hI_sI', hI_wL]
    · rw [f 50 (by decide)]; simp [fgL, fgF, fgW, hI_sI', hI_wL]
    · rw [(nE 56 (by decide)).2]
      unfold fgL fgF fgW
      rw [hL_sI, hL_sI, hL_sI, hL_sI, hL_wL, if_pos (by omega)]
    · rw [f 58 (by decide)]; simp [fgL, fgF, fgW, hI_sI', hI_wL]
    · rw [f 69 (by decide)]; simp [fgL, fgF, fgW, hI_sI', hI_wL]
    · rw [f 74 (by decide)]; simp [fgL, fgF, fgW, hI_sI', hI_wL]
    · rw [f 78 (by decide)]; simp [fgL, fgF, fgW, hI_sI', hI_wL]
  · exact DR_eq (h := h) (by rw [hr50]) (by rw [r4, if_neg (by decide), if_neg (by decide)]) (g 113 (by decide) (by decide) (by decide) (by decide)) (fun r hr => (dyn r (rw0.2.2.1 r hr).1).1) dr
theorem Q_back (n : Nat) (x1 : Int32) (h : Hp) (hn : n < 512) (hi : Inv n h) : ∃ h2, q_back x1 h = some h2 ∧ Inv (n + 1) h2 := by
  obtain ⟨τ, hi⟩ := hi
  unfold q_back
  by_cases hw : wi x1 0 1 = 0
  · have e1 : s_Race_back x1 h = some (-1, rfC h (-1)) := by
      unfold s_Race_back
      rw [p_within, Option.bind_some, if_pos hw, p_refuse, Option.bind_some]
    have e2 : s_Mod_back x1 (rfC h (-1)) = some (-1, rfR (rfC h (-1)) (-1)) := by
      unfold s_Mod_back
      rw [p_lies, Option.bind_some, if_pos hw, p_refR _ (Or.inl rfl), Option.bind_some]
    rw [e1, Option.bind_some]
    show ∃ h2, ((s_Mod_back x1 (rfC h (-1))).bind fun w => if (-1 : Int32) = w.1 then some w.2 else none) = some h2 ∧ _
    rw [e2, Option.bind_some, if_pos rfl]
    exact ⟨_, rfl, τ, refuse_ok hi (Or.inl rfl)⟩
  · obtain ⟨k, hk, rfl⟩ := wi_nat (b := 1) (by decide) (wi_n0 hw)
    have rw0 := hi.2.2.2.2.1
    obtain ⟨i1, i2⟩ := hi.2.1 k (by omega)
    by_cases h0 : hI h 44 k = 0
    · have e1 : s_Race_back (nI k) h = some (-2, rfC h (-2)) := by
        unfold s_Race_back
        rw [p_within, Option.bind_some, if_neg hw, ib_nI (by omega) (by decide), show ix (nI k) = k from nI_clamp (by omega), if_pos h0, p_refuse, Option.bind_some]
      have e2 : s_Mod_back (nI k) (rfC h (-2)) = some (-2, rfR (rfC h (-2)) (-2)) := by
        have : hI (rfC h (-2)) 88 k = 0 := by
          unfold rfC
          rw [hI_sI_ne (by decide), hI_sI_ne (by decide), ← i1]
          exact h0
        unfold s_Mod_back
        rw [p_lies, Option.bind_some, if_neg hw, ib_nI (by omega) (by decide), show ix (nI k) = k from nI_clamp (by omega), if_pos this, p_refR _ (Or.inr (Or.inl rfl)), Option.bind_some]
      rw [e1, Option.bind_some]
      show ∃ h2, ((s_Mod_back (nI k) (rfC h (-2))).bind fun w => if (-2 : Int32) = w.1 then some w.2 else none) = some h2 ∧ _
      rw [e2, Option.bind_some, if_pos rfl]
      exact ⟨_, rfl, τ, refuse_ok hi (Or.inr (Or.inl rfl))⟩
    · have h1 : hI h 44 k = 1 := by
        rcases i2 with z | z
        · exact absurd z h0
        · exact z.1
      have e1 : ∃ hc, s_Race_back (nI k) h = some (0, sI (fgL hc) 0 12 0) ∧ CPY (16 + 14 * k) 1 h hc := by
        unfold s_Race_back
        rw [p_within, Option.bind_some, if_neg hw, ib_nI (by omega) (by decide), show ix (nI k) = k from nI_clamp (by omega), if_neg h0, ib_nI (by omega) (by decide)]
        rcases (show k = 0 ∨ k = 1 by omega) with rfl | rfl
        · obtain ⟨hc, a1, a2⟩ := p_copy16 rw0
          refine ⟨hc, ?_, a2⟩
          rw [if_pos rfl, a1, Option.bind_some, p_forgetLevels, Option.bind_some, p_grant, Option.bind_some]
        · obtain ⟨hc, a1, a2⟩ := p_copy30 rw0
          refine ⟨hc, ?_, a2⟩
          rw [if_neg (by decide), a1, Option.bind_some, p_forgetLevels, Option.bind_some, p_grant, Option.bind_some]
      obtain ⟨hc, a1, a2⟩ := e1
      have h88 : hI (sI (fgL hc) 0 12 0) 88 k = 1 := by
        rw [hI_sI_ne (by decide)]
        unfold fgL
        rw [fgF_hI (by decide) (by decide) (by decide) (by decide) (by decide), hI_sI_ne (by decide), a2.1 88 (by decide), ← i1]
        exact h1
      obtain ⟨h2, b1, b2, b3, b4⟩ := p_backR (k := k) (by omega) (sI (fgL hc) 0 12 0) h88
      rw [a1, Option.bind_some]
      show ∃ h2, ((s_Mod_back (nI k) (sI (fgL hc) 0 12 0)).bind fun w => if (0 : Int32) = w.1 then some w.2 else none) = some h2 ∧ _
      rw [b1, Option.bind_some, if_pos rfl]
      exact ⟨_, rfl, back_ok hi hn (by omega) h1 a2 b2 b3 b4⟩
