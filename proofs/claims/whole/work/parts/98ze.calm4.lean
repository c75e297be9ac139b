/-! ways: calmest, the reference's -/
def s123 (j : Nat) : Bool := decide (j = 102) || decide (j = 103)
theorem s123_r (j : Nat) (h : s123 j = true) : 100 ≤ j ∧ j ≤ 112 := by
  unfold s123 at h
  rw [Bool.or_eq_true, decide_eq_true_eq, decide_eq_true_eq] at h
  omega
theorem p_wh99 {τ : Nat → TF} {K : Nat → Int32} {c s : Nat} {g : Hp} (X : LX τ K g) (hc : c < 50) (hs : s < 144) : (1440 : Int32) * K (41 + c) + nI (10 * s) = nI (1440 * kCl K c + 10 * s) ∧ 1440 * kCl K c + 10 * s < 8640 ∧ hI g 99 (1440 * kCl K c + 10 * s) = nI (whN (tin τ K) K c s) := by
  obtain ⟨k6, ek⟩ := kCl_e X.1.2.1 hc
  refine ⟨by rw [ek, show (1440 : Int32) = nI 1440 from rfl, nI_mul, nI_add], by omega, ?_⟩
  rw [X.2.2 (kCl K c) (10 * s) k6 (by omega), ← ek]
  exact (whN_e (tin τ K) K c s).2
theorem p_ca163 {τ : Nat → TF} {K : Nat → Int32} {b t s c v B : Nat} {best : Int32} {h : Hp} {F : Nat → Nat} (X : LX τ K h) (hb : b < 6) (hc : c < 50) (hs : s + 1 < 144) (hv : v + 100 ≤ B) (hB : B ≤ 100000) (hF : sB B F) (ev : hI h 102 c = nI v) : ∀ (q j : Nat) (g : Hp), j + q = 5 → eqO (fun j => decide (j = 103)) h g → CRr 103 (ofF (tin τ K) K b s c v j F) g → ∃ g2, lp (fun q : Int32 × Int32 × Int32 × Int32 × Int32 × Int32 × Hp => s_Mod_calmest_163 q.1 q.2.1 q.2.2.1 q.2.2.2.1 q.2.2.2.2.1 q.2.2.2.2.2.1 q.2.2.2.2.2.2) (nI b, nI t, best, nI s, nI c, nI j, g) = some (.inl (nI b, nI t, best, nI s, nI (c + 1), g2)) ∧ eqO (fun j => decide (j = 103)) h g2 ∧ CRr 103 (ofF (tin τ K) K b s c v 5 F) g2 := by
  intro q
  induction q with
  | zero =>
    intro j g hj E R
    have hj : j = 5 := by omega
    subst hj
    refine ⟨g, lp_inr ?_, E, R⟩
    show s_Mod_calmest_163 (nI b) (nI t) best (nI s) (nI c) (nI 5) g = _
    unfold s_Mod_calmest_163 s_Mod_calmest_253
    rw [if_pos (show (5 : Int32) ≤ nI 5 by decide), nI_1]
    rfl
  | succ q ih =>
    intro j g hj E R
    have Xg := LX_S X E (fun j hj => by have : j = 103 := of_decide_eq_true hj; omega)
    have e102 : hI g 102 c = nI v := by rw [(E.2 102 (by decide)).1]; exact ev
    have e247 : ∀ g1, s_Mod_calmest_247 (nI b) (nI t) best (nI s) (nI c) (nI j) g1 = some (.inl (nI b, nI t, best, nI s, nI c, nI (j + 1), g1)) := fun g1 => by
      unfold s_Mod_calmest_247
      rw [nI_1]
    cases eb : beh (tin τ K) K b c s j 0 with
    | none =>
      have stp : s_Mod_calmest_163 (nI b) (nI t) best (nI s) (nI c) (nI j) g = some (.inl (nI b, nI t, best, nI s, nI c, nI (j + 1), g)) := by
        unfold s_Mod_calmest_163
        rw [if_neg (by rw [show (5 : Int32) = nI 5 from rfl, nI_leI (by decide) (by omega)]; omega), p_behind Xg hb hc (by omega) (by omega) (by decide), Option.bind_some, eb, if_pos (show oI none = -1 from rfl)]
        exact e247 g
      rw [lp_inl stp]
      refine ih (j + 1) g (by omega) E (fun x hx => ?_)
      rw [ofF, eb]
      exact R x hx
    | some d =>
      have hd := beh_lt hc eb
      have wb := (whN_e (tin τ K) K d (s + 1)).1
      have fb := ofF_b (T := tin τ K) (K := K) (b := b) (s := s) (c := c) hv hB hF j d
      obtain ⟨i1, i2, i3⟩ := p_wh99 (s := s + 1) Xg hd hs
      have e163 : s_Mod_calmest_163 (nI b) (nI t) best (nI s) (nI c) (nI j) g = some (.inl (nI b, nI t, best, nI s, nI c, nI (j + 1), if ofF (tin τ K) K b s c v j F d ≤ v + whN (tin τ K) K d (s + 1) then g else sI g 103 d (nI (v + whN (tin τ K) K d (s + 1))))) := by
        unfold s_Mod_calmest_163
        rw [if_neg (by rw [show (5 : Int32) = nI 5 from rfl, nI_leI (by decide) (by omega)]; omega), p_behind Xg hb hc (by omega) (by omega) (by decide), Option.bind_some, eb, show oI (some d) = nI d from rfl, if_neg (nI_m1 (by omega)), ib_nI hc (by decide), p_kindR Xg.1 hd, Option.bind_some, nI_1, p_minuteOf (by omega) (by decide), Option.bind_some, mnS_0 hs, i1, ib_nI i2 (by decide), lt_eq, show ix (nI c) = c from nI_clamp (by omega), show ix (nI (1440 * kCl K d + 10 * (s + 1))) = 1440 * kCl K d + 10 * (s + 1) from nI_clamp (by omega), i3, e102, nI_add, ib_nI hd (by decide), show ix (nI d) = d from nI_clamp (by omega), R d hd]
        by_cases z : ofF (tin τ K) K b s c v j F d ≤ v + whN (tin τ K) K d (s + 1)
        · rw [if_pos (by rw [nI_leI (by omega) (by omega)]; exact z), if_pos z]
          exact e247 g
        · rw [if_neg (by rw [nI_leI (by omega) (by omega)]; exact z), if_neg z, ib_nI hd (by decide)]
          exact e247 _
      rw [lp_inl e163]
      by_cases z : ofF (tin τ K) K b s c v j F d ≤ v + whN (tin τ K) K d (s + 1)
      · rw [if_pos z]
        refine ih (j + 1) g (by omega) E (fun x hx => ?_)
        rw [ofF, eb]
        show _ = nI (if x = d then min (ofF (tin τ K) K b s c v j F d) (v + whN (tin τ K) K d (s + 1)) else ofF (tin τ K) K b s c v j F x)
        by_cases y : x = d
        · rw [if_pos y, Nat.min_eq_left z, y]; exact R d hd
        · rw [if_neg y]; exact R x hx
      · rw [if_neg z]
        refine ih (j + 1) _ (by omega) (eqO_sI E (by decide)) (fun x hx => ?_)
        rw [ofF, eb, hI_sI']
        show _ = nI (if x = d then min (ofF (tin τ K) K b s c v j F d) (v + whN (tin τ K) K d (s + 1)) else ofF (tin τ K) K b s c v j F x)
        by_cases y : x = d
        · rw [if_pos ⟨rfl, y⟩, if_pos y, Nat.min_eq_right (by omega)]
        · rw [if_neg (fun w => y w.2), if_neg y]; exact R x hx
