/-! ways: soonest, the reference's -/
def b01 (x : Bool) : Int32 := if x then 1 else 0
theorem b01_0 (x : Bool) : b01 x = 0 ↔ x = false := by cases x <;> decide
theorem any_s (n : Nat) (f : Nat → Bool) : (List.range (n + 1)).any f = ((List.range n).any f || f n) := by
  rw [List.range_succ, List.any_append, List.any_cons, List.any_nil, Bool.or_false]
def s100 (j : Nat) : Bool := decide (j = 100)
theorem LX_100 {τ : Nat → TF} {K : Nat → Int32} {h g : Hp} (X : LX τ K h) (E : eqO s100 h g) : LX τ K g := by
  obtain ⟨⟨x1, x2, x3⟩, l1, l2⟩ := X
  refine ⟨⟨by rw [(E.2 86 (by decide)).1]; exact x1, x2, x3⟩, ?_, ?_⟩
  · rw [(E.2 97 (by decide)).1]; exact l1
  · rw [(E.2 99 (by decide)).1]; exact l2
def RCm (T : TF) (K : Nat → Int32) (b s0 a s : Nat) (g : Hp) : Prop := ∀ s2 c, s0 ≤ s2 → s2 < s → c < 50 → hI g 100 (50 * s2 + c) = b01 (rch T K b s0 a (s2 - s0) c)
theorem RCm_w {T : TF} {K : Nat → Int32} {b s0 a s d : Nat} {v : Int32} {g : Hp} (H : RCm T K b s0 a s g) : RCm T K b s0 a s (sI g 100 (50 * s + d) v) := fun s2 c h1 h2 h3 => by
  rw [hI_sI', if_neg (by omega)]
  exact H s2 c h1 h2 h3
def qB (T : TF) (K : Nat → Int32) (b s0 a s c d : Nat) : Bool := (List.range c).any fun x => rch T K b s0 a (s - 1 - s0) x && edB T K b (s - 1) x d
def mB (T : TF) (K : Nat → Int32) (b s c j d : Nat) : Bool := (List.range j).any fun mv => decide (beh T K b c (s - 1) mv 0 = some d)
theorem qB_50 {T : TF} {K : Nat → Int32} {b s0 a s d : Nat} (hs : s0 < s) (hd : d < 50) : qB T K b s0 a s 50 d = rch T K b s0 a (s - s0) d := by
  rw [show s - s0 = (s - 1 - s0) + 1 by omega, rch, decide_eq_true hd, Bool.true_and, show s0 + (s - 1 - s0) = s - 1 by omega]
  rfl
def i50 (s d : Nat) : (50 : Int32) * nI s + nI d = nI (50 * s + d) := by rw [show (50 : Int32) = nI 50 from rfl, nI_mul, nI_add]
theorem p_so113 {τ : Nat → TF} {K : Nat → Int32} {b s0 a t s c : Nat} {h : Hp} (X : LX τ K h) (hb : b < 6) (hc : c < 50) (hs : 1 ≤ s) (hs2 : s < 144) : ∀ (q j : Nat) (g : Hp), j + q = 5 → eqO s100 h g → RCm (tin τ K) K b s0 a s g → (∀ d, d < 50 → hI g 100 (50 * s + d) = b01 (qB (tin τ K) K b s0 a s c d || mB (tin τ K) K b s c j d)) → ∃ g2, lp (fun q : Int32 × Int32 × Int32 × Int32 × Int32 × Int32 × Int32 × Hp => s_Mod_soonestOf_113 q.1 q.2.1 q.2.2.1 q.2.2.2.1 q.2.2.2.2.1 q.2.2.2.2.2.1 q.2.2.2.2.2.2.1 q.2.2.2.2.2.2.2) (nI b, nI s0, nI a, nI t, nI s, nI c, nI j, g) = some (.inl (nI b, nI s0, nI a, nI t, nI s, nI (c + 1), g2)) ∧ eqO s100 h g2 ∧ RCm (tin τ K) K b s0 a s g2 ∧ ∀ d, d < 50 → hI g2 100 (50 * s + d) = b01 (qB (tin τ K) K b s0 a s c d || mB (tin τ K) K b s c 5 d) := by
  intro q
  induction q with
  | zero =>
    intro j g hj E P R
    have hj : j = 5 := by omega
    subst hj
    refine ⟨g, lp_inr ?_, E, P, R⟩
    show s_Mod_soonestOf_113 (nI b) (nI s0) (nI a) (nI t) (nI s) (nI c) (nI 5) g = _
    unfold s_Mod_soonestOf_113 s_Mod_soonestOf_161
    rw [if_pos (show (5 : Int32) ≤ nI 5 by decide), nI_1]
    rfl
  | succ q ih =>
    intro j g hj E P R
    have Xg := LX_100 X E
    have e155 : ∀ g1, s_Mod_soonestOf_155 (nI b) (nI s0) (nI a) (nI t) (nI s) (nI c) (nI j) g1 = some (.inl (nI b, nI s0, nI a, nI t, nI s, nI c, nI (j + 1), g1)) := fun g1 => by
      unfold s_Mod_soonestOf_155
      rw [nI_1]
    have stp : s_Mod_soonestOf_113 (nI b) (nI s0) (nI a) (nI t) (nI s) (nI c) (nI j) g = some (.inl (nI b, nI s0, nI a, nI t, nI s, nI c, nI (j + 1), match beh (tin τ K) K b c (s - 1) j 0 with
        | none => g
        | some d => sI g 100 (50 * s + d) 1)) := by
      unfold s_Mod_soonestOf_113
      rw [if_neg (by rw [show (5 : Int32) = nI 5 from rfl, nI_leI (by decide) (by omega)]; omega), show nI s - 1 = nI (s - 1) by rw [show (1 : Int32) = nI 1 from rfl, nI_sub hs], p_behind Xg hb hc (by omega) (by omega) (by decide), Option.bind_some]
      cases e : beh (tin τ K) K b c (s - 1) j 0 with
      | none =>
        rw [if_pos (show oI none = -1 from rfl)]
        exact e155 g
      | some d =>
        have hd := beh_lt hc e
        rw [show oI (some d) = nI d from rfl, if_neg (nI_m1 (by omega)), i50, ib_nI (by omega) (by decide), show ix (nI (50 * s + d)) = 50 * s + d from nI_clamp (by omega), show z_nz 1 = 1 by decide]
        exact e155 _
    rw [lp_inl stp]
    cases e : beh (tin τ K) K b c (s - 1) j 0 with
    | none =>
      refine ih (j + 1) g (by omega) E P (fun d hd => ?_)
      rw [R d hd]
      unfold mB
      rw [any_s, e, decide_eq_false (p := none = some d) (by intro z; cases z), Bool.or_false]
    | some d0 =>
      refine ih (j + 1) _ (by omega) (eqO_sI E (by decide)) (RCm_w P) (fun d hd => ?_)
      show hI (sI g 100 (50 * s + d0) 1) 100 (50 * s + d) = _
      rw [hI_sI']
      unfold mB
      rw [any_s, e]
      by_cases z : d = d0
      · rw [if_pos ⟨rfl, by omega⟩, z, decide_eq_true rfl, Bool.or_true, Bool.or_true]
        rfl
      · rw [if_neg (by omega), R d hd, decide_eq_false (p := some d0 = some d) (fun y => z (by cases y; rfl)), Bool.or_false]
        rfl
def soE (T : TF) (K : Nat → Int32) (b s0 a t s : Nat) (h : Hp) (r : (Int32 × Int32 × Int32 × Int32 × Int32 × Hp) ⊕ (Int32 × Hp)) : Prop := ∃ g2, r = (if rch T K b s0 a (s - s0) t then .inr (nI s, g2) else .inl (nI b, nI s0, nI a, nI t, nI (s + 1), g2)) ∧ eqO s100 h g2 ∧ RCm T K b s0 a (s + 1) g2
theorem p_so167 {T : TF} {K : Nat → Int32} {b s0 a t s : Nat} {h g : Hp} (hs : s0 ≤ s) (hs2 : s < 144) (ht : t < 50) (E : eqO s100 h g) (P : RCm T K b s0 a s g) (R : ∀ d, d < 50 → hI g 100 (50 * s + d) = b01 (rch T K b s0 a (s - s0) d)) : ∃ r, s_Mod_soonestOf_167 (nI b) (nI s0) (nI a) (nI t) (nI s) g = some r ∧ soE T K b s0 a t s h r := by
  have P2 : RCm T K b s0 a (s + 1) g := fun s2 c h1 h2 h3 => by
    by_cases z : s2 = s
    · rw [z]; exact R c h3
    · exact P s2 c h1 (by omega) h3
  unfold s_Mod_soonestOf_167
  rw [i50, ib_nI (by omega) (by decide), show ix (nI (50 * s + t)) = 50 * s + t from nI_clamp (by omega), R t ht, nI_1]
  cases e : rch T K b s0 a (s - s0) t
  · rw [if_pos (show b01 false = 0 by decide)]
    refine ⟨_, rfl, g, ?_, E, P2⟩
    rw [e]; rfl
  · rw [if_neg (show ¬ b01 true = 0 by decide)]
    refine ⟨_, rfl, g, ?_, E, P2⟩
    rw [e]; rfl
theorem p_so76 {τ : Nat → TF} {K : Nat → Int32} {b s0 a t s : Nat} {h : Hp} (X : LX τ K h) (hb : b < 6) (ht : t < 50) (hs : s0 < s) (hs2 : s < 144) : ∀ (q c : Nat) (g : Hp), c + q = 50 → eqO s100 h g → RCm (tin τ K) K b s0 a s g → (∀ d, d < 50 → hI g 100 (50 * s + d) = b01 (qB (tin τ K) K b s0 a s c d)) → ∃ r, lp (fun q : Int32 × Int32 × Int32 × Int32 × Int32 × Int32 × Hp => s_Mod_soonestOf_76 q.1 q.2.1 q.2.2.1 q.2.2.2.1 q.2.2.2.2.1 q.2.2.2.2.2.1 q.2.2.2.2.2.2) (nI b, nI s0, nI a, nI t, nI s, nI c, g) = some r ∧ soE (tin τ K) K b s0 a t s h r := by
  intro q
  induction q with
  | zero =>
    intro c g hc E P R
    have hc : c = 50 := by omega
    subst hc
    obtain ⟨r, r1, r2⟩ := p_so167 (t := t) (by omega) hs2 ht E P (fun d hd => by rw [R d hd, qB_50 hs hd])
    refine ⟨r, lp_inr ?_, r2⟩
    show s_Mod_soonestOf_76 (nI b) (nI s0) (nI a) (nI t) (nI s) (nI 50) g = _
    unfold s_Mod_soonestOf_76
    rw [if_pos (show (50 : Int32) ≤ nI 50 by decide), r1]
    rfl
  | succ q ih =>
    intro c g hc E P R
    have hc2 : c < 50 := by omega
    have stp : s_Mod_soonestOf_76 (nI b) (nI s0) (nI a) (nI t) (nI s) (nI c) g = if rch (tin τ K) K b s0 a (s - 1 - s0) c then lp (fun q : Int32 × Int32 × Int32 × Int32 × Int32 × Int32 × Int32 × Hp => s_Mod_soonestOf_113 q.1 q.2.1 q.2.2.1 q.2.2.2.1 q.2.2.2.2.1 q.2.2.2.2.2.1 q.2.2.2.2.2.2.1 q.2.2.2.2.2.2.2) (nI b, nI s0, nI a, nI t, nI s, nI c, nI 0, g) else some (.inl (nI b, nI s0, nI a, nI t, nI s, nI (c + 1), g)) := by
      unfold s_Mod_soonestOf_76 s_Mod_soonestOf_161
      rw [if_neg (by rw [show (50 : Int32) = nI 50 from rfl, nI_leI (by decide) (by omega)]; omega), if_neg (by rw [nI_leI (by omega) (by omega)]; omega), show nI s - 1 = nI (s - 1) by rw [show (1 : Int32) = nI 1 from rfl, nI_sub (by omega)], i50, ib_nI (by omega) (by decide), show ix (nI (50 * (s - 1) + c)) = 50 * (s - 1) + c from nI_clamp (by omega), P (s - 1) c (by omega) (by omega) hc2, nI_1]
      cases rch (tin τ K) K b s0 a (s - 1 - s0) c
      · rw [if_pos (show b01 false = 0 by decide), if_neg (show ¬ false = true by decide)]
      · rw [if_neg (show ¬ b01 true = 0 by decide), if_pos rfl]
        rfl
    cases e : rch (tin τ K) K b s0 a (s - 1 - s0) c
    · rw [e, if_neg (show ¬ false = true by decide)] at stp
      rw [lp_inl stp]
      refine ih (c + 1) g (by omega) E P (fun d hd => ?_)
      rw [R d hd]
      unfold qB
      rw [any_s, e, Bool.false_and, Bool.or_false]
    · obtain ⟨g2, a1, a2, a3, a4⟩ := p_so113 (s0 := s0) (a := a) (t := t) X hb hc2 (s := s) (by omega) hs2 5 0 g (by omega) E P (fun d hd => by rw [R d hd]; unfold mB; rw [List.range_zero, List.any_nil, Bool.or_false])
      rw [e, if_pos rfl, a1] at stp
      rw [lp_inl stp]
      refine ih (c + 1) g2 (by omega) a2 a3 (fun d hd => ?_)
      rw [a4 d hd]
      unfold qB
      rw [any_s, e, Bool.true_and]
      rfl
