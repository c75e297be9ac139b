/-! a day's flow, on both sides -/
theorem Fr_of2 {S : Nat → Bool} {h h2 : Hp} (a : eqO S h h2) (hs : ∀ j, NS ≤ j → (kd h j).2 ≤ 400 → S j = false) : Fr S h h2 :=
  ⟨fun j _ h2 => a.2 j h2, fun j _ _ _ => by rw [hR_of a.1], fun r h0 _ => ⟨kd_of a.1 r, by rw [hR_of a.1], fun z => (a.2 r (hs r h0 z)).1⟩, by rw [hN_of a.1]; exact Nat.le_refl _⟩
theorem fw_W {T : TF} {K W W2 : Nat → Int32} {gl tb : Int32} (hW : ∀ i, i < 24 → W i = W2 i) : ∀ m, m ≤ 1440 → fw T K W gl tb m = fw T K W2 gl tb m
  | 0, _ => rfl
  | m + 1, hm => by
    unfold fw
    rw [fw_W hW m (by omega), hW (m / 60) (by omega)]
def sGr (r j : Nat) : Bool := sGn j || decide (j = r)
theorem sGr_no {r j : Nat} (h1 : j ≠ 51) (h2 : j ≠ 52) (h3 : j ≠ 53) (h4 : j ≠ r) : sGr r j = false := by
  unfold sGr sGn
  rw [decide_eq_false h1, decide_eq_false h2, decide_eq_false h3, decide_eq_false h4]
  rfl
theorem sGr_of {r j : Nat} (h : sGr r j = false) : j ≠ 51 ∧ j ≠ 52 ∧ j ≠ 53 ∧ j ≠ r := by
  unfold sGr sGn at h
  simp only [Bool.or_eq_false_iff, decide_eq_false_iff_not] at h
  exact ⟨h.1.1.1, h.1.1.2, h.1.2, h.2⟩
/-- what the class's flow counts on -/
def FX (τ : Nat → TF) (K : Nat → Int32) (h : Hp) : Prop := StP K h 1 ∧ Rg K ∧ LW τ K h 1 ∧ TdOK (mk pF K) h
theorem FX_gr {τ : Nat → TF} {K : Nat → Int32} {h h1 : Hp} {r : Nat} (X : FX τ K h) (hr : nd h r 0 1440) (hr2 : r = 57 ∨ NS ≤ r) (E : eqO (sGr r) h h1) : FX τ K h1 := by
  obtain ⟨st, rg, lw, td_⟩ := X
  have h57 : 57 ≤ r := by
    rcases hr2 with rfl | z
    · exact Nat.le_refl _
    · have : 114 ≤ r := z
      omega
  have F : Fr (sGr r) h h1 := Fr_of2 E (fun j h0 h1 => by
    have : 114 ≤ j := h0
    refine sGr_no (by omega) (by omega) (by omega) ?_
    rintro rfl
    rw [hr.1] at h1
    exact absurd h1 (by decide))
  refine ⟨StP_eq E (fun j h1 h2 => sGr_no (by omega) (by omega) (by omega) (by omega)) st, rg, LW_Fr F (by decide) lw rfl (fun _ _ => rfl), ?_⟩
  unfold TdOK
  rw [(E.2 54 (sGr_no (by decide) (by decide) (by decide) (by omega))).1]
  exact td_
theorem p_run18 {τ : Nat → TF} {K W : Nat → Int32} {h : Hp} {r : Nat} {gl tb : Int32} (X : FX τ K h) (hr : nd h r 0 1440) (hr2 : r = 57 ∨ NS ≤ r) (hW : ∀ i, i < 24 → hI h 55 i = W i) (hWb : ∀ i, i < 24 → na (W i) ≤ 40) (hg : na (1013 - gl) ≤ 100) (htb : na tb ≤ 20) :
    ∀ (n m : Nat) (h0 : Hp), m + n = 1440 → eqO (sGr r) h h0 → (∀ i, i < m → hI h0 r i = fw (tin τ K) (mk pF K) W gl tb i) → ∃ h', lp (fun q : Nat × Int32 × Int32 × Int32 × Int32 × Hp => s_Water_run_18 q.1 q.2.1 q.2.2.1 q.2.2.2.1 q.2.2.2.2.1 q.2.2.2.2.2) (r, gl, tb, fw (tin τ K) (mk pF K) W gl tb m, nI m, h0) = some h' ∧ eqO (sGr r) h h' ∧ ∀ i, i < 1440 → hI h' r i = fw (tin τ K) (mk pF K) W gl tb i := by
  have hr3 : r ≠ 51 ∧ r ≠ 52 ∧ r ≠ 53 ∧ r ≠ 55 := by
    rcases hr2 with rfl | z
    · decide
    · have : 114 ≤ r := z
      omega
  intro n
  induction n with
  | zero =>
    intro m h0 hm E hv
    have hm : m = 1440 := by omega
    subst hm
    refine ⟨h0, lp_inr ?_, E, hv⟩
    show s_Water_run_18 r gl tb _ (nI 1440) h0 = _
    unfold s_Water_run_18
    rw [if_pos (show (1440 : Int32) ≤ nI 1440 by decide)]
  | succ n ih =>
    intro m h0 hm E hv
    have hr0 : nd h0 r 0 1440 := nd_eq E.1 hr
    have E1 : eqO (sGr r) h (sI h0 r m (fw (tin τ K) (mk pF K) W gl tb m)) := eqO_sI E (by unfold sGr; rw [decide_eq_true rfl, Bool.or_true])
    have X1 := FX_gr X hr hr2 E1
    have w55 : hI (sI h0 r m (fw (tin τ K) (mk pF K) W gl tb m)) 55 (m / 60) = W (m / 60) := by
      rw [(E1.2 55 (sGr_no (by decide) (by decide) (by decide) (Ne.symm hr3.2.2.2))).1]
      exact hW _ (by omega)
    obtain ⟨h2, g1, g2⟩ := p_gainC X1.1 X1.2.1 X1.2.2.1 X1.2.2.2 (m := m) (by omega) (f := fw (tin τ K) (mk pF K) W gl tb m) (gl := gl) (tb := tb) (by rw [w55]; exact hWb _ (by omega)) hg
    rw [w55] at g1
    have E2 : eqO (sGr r) h h2 := eqO_trans E1 (eqO_mono g2 (fun j hj => by
      obtain ⟨a, b, c, d⟩ := sGr_of hj
      unfold sGn
      rw [decide_eq_false a, decide_eq_false b, decide_eq_false c]
      rfl))
    have er : hI h2 r = hI (sI h0 r m (fw (tin τ K) (mk pF K) W gl tb m)) r := (g2.2 r (by
      unfold sGn
      rw [decide_eq_false hr3.1, decide_eq_false hr3.2.1, decide_eq_false hr3.2.2.1]
      rfl)).1
    obtain ⟨h', e1, e2, e3⟩ := ih (m + 1) h2 (by omega) E2 (fun i hi => by
      rw [er, hI_sI']
      by_cases him : i = m
      · rw [if_pos ⟨rfl, him⟩, him]
      · rw [if_neg (fun z => him z.2)]
        exact hv i (by omega))
    refine ⟨h', ?_, e2, e3⟩
    rw [lp_inl (s' := (r, gl, tb, fw (tin τ K) (mk pF K) W gl tb (m + 1), nI (m + 1), h2)) ?_]
    · exact e1
    · show s_Water_run_18 r gl tb _ (nI m) h0 = _
      unfold s_Water_run_18
      rw [if_neg (by rw [show (1440 : Int32) = nI 1440 from rfl, nI_leI (by decide) (by omega)]; omega), ak_some hr0, ln_of hr0, ib_nI (by omega) (by decide), show ix (nI m) = m from nI_clamp (by omega), g1, Option.bind_some, p_nearest, Option.bind_some, nI_1]
      rfl
def sRn (r j : Nat) : Bool := decide (50 ≤ j) && decide (j ≤ 54) || decide (j = r)
theorem sRn_no {r j : Nat} (h1 : j < 50 ∨ 54 < j) (h4 : j ≠ r) : sRn r j = false := by
  unfold sRn
  rw [decide_eq_false h4]
  rcases h1 with h1 | h1
  · rw [decide_eq_false (p := 50 ≤ j) (by omega)]; rfl
  · rw [decide_eq_false (p := j ≤ 54) (by omega), Bool.and_false]; rfl
theorem sRn_of {r j : Nat} (h : sRn r j = false) : (j < 50 ∨ 54 < j) ∧ j ≠ r := by
  unfold sRn at h
  simp only [Bool.or_eq_false_iff, Bool.and_eq_false_iff, decide_eq_false_iff_not] at h
  omega
theorem p_run {τ : Nat → TF} {K W : Nat → Int32} {h : Hp} {r : Nat} {gl tb : Int32} (st : StP K h 1) (rg : Rg K) (lw : LW τ K h 1) (c9 : C9 (mk pF K) h) (hr : nd h r 0 1440) (hr2 : r = 57 ∨ NS ≤ r) (hW : ∀ i, i < 24 → hI h 55 i = W i) (hWb : ∀ i, i < 24 → na (W i) ≤ 40) (hg : na (1013 - gl) ≤ 100) (htb : na tb ≤ 20) :
    ∃ h', s_Water_run r gl tb h = some h' ∧ (∀ i, i < 1440 → hI h' r i = fw (tin τ K) (mk pF K) W gl tb i) ∧ eqO (sRn r) h h' ∧ hI h' 50 9 = 1 ∧ TdOK (mk pF K) h' ∧ ∀ k, k ≠ 9 → hI h' 50 k = hI h 50 k := by
  have h57 : 57 ≤ r := by
    rcases hr2 with rfl | z
    · exact Nat.le_refl _
    · have : 114 ≤ r := z
      omega
  obtain ⟨h1, e1, e2, e3, e4, e5⟩ := p_ft st rg c9
  have X1 : FX τ K h1 := ⟨StP_eq e2 sFT_15 st, rg, LW_Fr (Fr_of e2 (fun j hj => by
    have : 114 ≤ j := hj
    unfold sFT
    rw [decide_eq_false (p := j = 50) (by omega), decide_eq_false (p := j = 54) (by omega)]
    rfl)) (by decide) lw rfl (fun _ _ => rfl), e4⟩
  obtain ⟨h', f1, f2, f3⟩ := p_run18 (gl := gl) (tb := tb) X1 (nd_eq e2.1 hr) hr2 (W := W) (fun i hi => by rw [(e2.2 55 (by decide)).1]; exact hW i hi) hWb hg htb 1440 0 h1 (by decide) (eqO_refl _ _) (fun i hi => absurd hi (by omega))
  have e50 : hI h' 50 = hI h1 50 := (f2.2 50 (sGr_no (by decide) (by decide) (by decide) (by omega))).1
  refine ⟨h', ?_, f3, ?_, by rw [e50]; exact e3, ?_, fun k hk => by rw [e50]; exact e5 k hk⟩
  · unfold s_Water_run
    rw [e1, Option.bind_some, ib_some _ (by decide) (by decide), show ix 4 = 4 by decide, X1.1 |> fun s => kf_term s 4 (by decide)]
    exact f1
  · refine eqO_trans (eqO_mono e2 (fun j hj => ?_)) (eqO_mono f2 (fun j hj => ?_))
    · have := sRn_of hj
      unfold sFT
      rw [decide_eq_false (p := j = 50) (by omega), decide_eq_false (p := j = 54) (by omega)]
      rfl
    · have := sRn_of hj
      exact sGr_no (by omega) (by omega) (by omega) (by omega)
  · unfold TdOK
    rw [(f2.2 54 (sGr_no (by decide) (by decide) (by decide) (by omega))).1]
    exact e4
/-- the reference's -/
def sGq (r j : Nat) : Bool := sGR j || decide (j = r)
theorem sGq_no {r j : Nat} (h1 : j ≠ 84) (h2 : j ≠ 95) (h4 : j ≠ r) : sGq r j = false := by
  unfold sGq sGR
  rw [decide_eq_false h1, decide_eq_false h2, decide_eq_false h4]
  rfl
theorem sGq_of {r j : Nat} (h : sGq r j = false) : j ≠ 84 ∧ j ≠ 95 ∧ j ≠ r := by
  unfold sGq sGR at h
  simp only [Bool.or_eq_false_iff, decide_eq_false_iff_not] at h
  exact ⟨h.1.1, h.1.2, h.2⟩
theorem p_flows11 {τ : Nat → TF} {K W : Nat → Int32} {h : Hp} {r : Nat} {gl tb : Int32} (X : RX τ K h) (hr : nd h r 0 1440) (hr2 : 97 ≤ r) (hW : ∀ i, i < 24 → hI h 96 i = W i) (hWb : ∀ i, i < 24 → na (W i) ≤ 40) (hg : na (1013 - gl) ≤ 100) (htb : na tb ≤ 20) :
    ∀ (n m : Nat) (h0 : Hp), m + 1 + n = 1440 → eqO (sGq r) h h0 → m84 asF h h0 → (∀ i, i ≤ m → hI h0 r i = fw (tin τ K) (mk pF K) W gl tb i) → ∃ h', lp (fun q : Nat × Int32 × Int32 × Int32 × Hp => s_Mod_flows_11 q.1 q.2.1 q.2.2.1 q.2.2.2.1 q.2.2.2.2) (r, gl, tb, nI (m + 1), h0) = some h' ∧ eqO (sGq r) h h' ∧ m84 asF h h' ∧ ∀ i, i < 1440 → hI h' r i = fw (tin τ K) (mk pF K) W gl tb i := by
  intro n
  induction n with
  | zero =>
    intro m h0 hm E M hv
    have hm : m = 1439 := by omega
    subst hm
    refine ⟨h0, lp_inr ?_, E, M, fun i hi => hv i (by omega)⟩
    show s_Mod_flows_11 r gl tb (nI 1440) h0 = _
    unfold s_Mod_flows_11
    rw [if_pos (show (1440 : Int32) ≤ nI 1440 by decide)]
  | succ n ih =>
    intro m h0 hm E M hv
    have hr0 : nd h0 r 0 1440 := nd_eq E.1 hr
    have X0 : RX τ K h0 := RX_eq X (E.2 86 (sGq_no (by decide) (by decide) (by omega))).1
    have w96 : hI h0 96 (m / 60) = W (m / 60) := by
      rw [(E.2 96 (sGq_no (by decide) (by decide) (by omega))).1]
      exact hW _ (by omega)
    obtain ⟨h2, g1, g2, g3⟩ := p_gainR X0 (m := m) (by omega) (fw (tin τ K) (mk pF K) W gl tb m) gl tb
    rw [w96] at g1
    have fb : na (fw (tin τ K) (mk pF K) W gl tb m) ≤ 2000 := fw_b X.2.1 m
    have gb : na (gn (tin τ K) (mk pF K) (W (m / 60)) gl tb (nI m) (fw (tin τ K) (mk pF K) W gl tb m)) ≤ 3000000 := gn_b X.2.1 (by omega) (hWb _ (by omega)) hg htb fb
    have E2 : eqO (sGq r) h h2 := eqO_trans E (eqO_mono g2 (fun j hj => by
      obtain ⟨a, b, c⟩ := sGq_of hj
      unfold sGR
      rw [decide_eq_false a, decide_eq_false b]
      rfl))
    have hr2' : nd h2 r 0 1440 := nd_eq E2.1 hr
    have er : hI h2 r = hI h0 r := (g2.2 r (by
      unfold sGR
      rw [decide_eq_false (p := r = 84) (by omega), decide_eq_false (p := r = 95) (by omega)]
      rfl)).1
    obtain ⟨h', e1, e2, e3, e4⟩ := ih (m + 1) (sI h2 r (m + 1) (fw (tin τ K) (mk pF K) W gl tb (m + 1))) (by omega) (eqO_sI E2 (by unfold sGq; rw [decide_eq_true rfl, Bool.or_true])) (m84_sI (m84_trans M g3) (Or.inl (by omega))) (fun i hi => by
      rw [hI_sI']
      by_cases him : i = m + 1
      · rw [if_pos ⟨rfl, him⟩, him]
      · rw [if_neg (fun z => him z.2), er]
        exact hv i (by omega))
    refine ⟨h', ?_, e2, e3, e4⟩
    rw [lp_inl (s' := (r, gl, tb, nI (m + 1 + 1), sI h2 r (m + 1) (fw (tin τ K) (mk pF K) W gl tb (m + 1)))) ?_]
    · exact e1
    · show s_Mod_flows_11 r gl tb (nI (m + 1)) h0 = _
      unfold s_Mod_flows_11
      rw [if_neg (by rw [show (1440 : Int32) = nI 1440 from rfl, nI_leI (by decide) (by omega)]; omega), nI_pred, ak_some hr0, ln_of hr0, ib_nI (by omega) (by decide), ak_some hr0, ib_nI (by omega) (by decide), show ix (nI m) = m from nI_clamp (by omega), show ix (nI (m + 1)) = m + 1 from nI_clamp (by omega), hv m (Nat.le_refl _), g1, Option.bind_some, add64 fb gb (by decide), p_near, Option.bind_some, ak_some hr2', ln_of hr2', ib_nI (by omega) (by decide), nI_1]
      rfl
theorem p_flows {τ : Nat → TF} {K W : Nat → Int32} {h : Hp} {r : Nat} {gl tb : Int32} (X : RX τ K h) (hr : nd h r 0 1440) (hr2 : 97 ≤ r) (hW : ∀ i, i < 24 → hI h 96 i = W i) (hWb : ∀ i, i < 24 → na (W i) ≤ 40) (hg : na (1013 - gl) ≤ 100) (htb : na tb ≤ 20) :
    ∃ h', s_Mod_flows r gl tb h = some h' ∧ eqO (sGq r) h h' ∧ m84 asF h h' ∧ ∀ i, i < 1440 → hI h' r i = fw (tin τ K) (mk pF K) W gl tb i := by
  have t4 : s_Mod_term 4 h = some (mk pF K 34) := p_termK X (k := 4) (by decide)
  unfold s_Mod_flows
  rw [t4, Option.bind_some, ak_some hr, ln_of hr, ib_some _ (by decide) (by decide), show ix 0 = 0 by decide]
  refine p_flows11 X hr hr2 hW hWb hg htb 1439 0 _ (by decide) (eqO_sI (eqO_refl _ _) (by unfold sGq; rw [decide_eq_true rfl, Bool.or_true])) (m84_sI (m84_refl _ _) (Or.inl (by omega))) (fun i hi => ?_)
  have hi : i = 0 := by omega
  subst hi
  rw [hI_sI', if_pos ⟨rfl, rfl⟩]
  rfl
