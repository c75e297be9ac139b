/-! the law: the call -/
theorem rfC_at (h : Hp) (v : Int32) (j : Nat) (h0 : j ≠ 0) (h1 : j ≠ 83) : hI (rfC h v) j = hI h j := by
  unfold rfC
  rw [hI_sI_ne h1, hI_sI_ne h0]
theorem rfR_at (h : Hp) (v : Int32) (j : Nat) (h0 : j ≠ 84) (h1 : j ≠ 85) : hI (rfR h v) j = hI h j := by
  unfold rfR
  rw [hI_sI_ne h1, hI_sI_ne h0]
theorem rfC_0 (h : Hp) (v : Int32) (q : Nat) : hI (rfC h v) 0 q = if q = 12 then v else hI h 0 q := by
  unfold rfC
  rw [hI_sI_ne (by decide), hI_sI']
  by_cases z : q = 12
  · rw [if_pos ⟨rfl, z⟩, if_pos z]
  · rw [if_neg (fun u => z u.2), if_neg z]
theorem rfC_83 (h : Hp) (v : Int32) (q : Nat) : hI (rfC h v) 83 q = if q = rfI v then hI h 83 q + 1 else hI h 83 q := by
  unfold rfC
  rw [hI_sI', hI_sI_ne (by decide)]
  by_cases z : q = rfI v
  · rw [if_pos ⟨rfl, z⟩, if_pos z, z]
  · rw [if_neg (fun u => z u.2), if_neg z]
theorem rfR_84 (h : Hp) (v : Int32) (q : Nat) : hI (rfR h v) 84 q = if q = 0 then v else hI h 84 q := by
  unfold rfR
  rw [hI_sI_ne (by decide), hI_sI']
  by_cases z : q = 0
  · rw [if_pos ⟨rfl, z⟩, if_pos z]
  · rw [if_neg (fun u => z u.2), if_neg z]
theorem rfR_85 (h : Hp) (v : Int32) (q : Nat) : hI (rfR h v) 85 q = if q = ix (-v) then hI h 85 q + 1 else hI h 85 q := by
  unfold rfR
  rw [hI_sI', hI_sI_ne (by decide)]
  by_cases z : q = ix (-v)
  · rw [if_pos ⟨rfl, z⟩, if_pos z, z]
  · rw [if_neg (fun u => z u.2), if_neg z]
theorem eqO_rfC {S : Nat → Bool} {h g : Hp} {v : Int32} (E : eqO S h g) (h0 : S 0 = true) (h1 : S 83 = true) : eqO S h (rfC g v) := eqO_sI (eqO_sI E h0) h1
theorem eqO_rfR {S : Nat → Bool} {h g : Hp} {v : Int32} (E : eqO S h g) (h0 : S 84 = true) (h1 : S 85 = true) : eqO S h (rfR g v) := eqO_sI (eqO_sI E h0) h1
theorem sSp_Lw (j : Nat) (h : sLw j = false) : sSp j = false := by
  have := sLw_of h
  unfold sSp
  simp only [Bool.or_eq_false_iff, Bool.and_eq_false_iff, decide_eq_false_iff_not]
  omega
theorem sR3_Lw (j : Nat) (h : sLw j = false) : sR3 j = false := by
  have := sLw_of h
  unfold sR3
  simp only [Bool.or_eq_false_iff, decide_eq_false_iff_not]
  omega
theorem TYr_of {y : Nat → Nat} {n : Nat} {h g : Hp} (T : TYr y n h) (E : ∀ j, j = 89 ∨ j = 90 → hI g j = hI h j) : TYr y n g := TYr_eq T (E 90 (Or.inr rfl)) (E 89 (Or.inl rfl))
theorem Q_law (n : Nat) (h : Hp) (hn : n < 512) (hi : Inv n h) : ∃ h2, q_law h = some h2 ∧ Inv (n + 1) h2 := by
  obtain ⟨τ, hi⟩ := hi
  have hi0 := hi
  obtain ⟨sm, im, tp, ss, rw0, cc, rc, dr, rm, wd⟩ := hi0
  obtain ⟨t0, ht, e189⟩ := Rg_nat (j := 189) (b := 6) sm.2.1 (by decide) (by decide) (by decide)
  have e13 : hI h 1 13 = nI t0 := (StP_at (s := 1) (j := 189) (a := 0) (b := 13) sm.1 (by decide) (by decide)).trans e189
  unfold q_law s_Race_law
  rw [e13]
  by_cases z : t0 < 6
  · rw [if_pos (by rw [show (6 : Int32) = nI 6 from rfl, nI_ltI (by omega) (by decide)]; exact z)]
    obtain ⟨n0, k1, k2, k3, k4⟩ := tp
    have yv : ∀ i, i < n0 → ix (hI h 46 i) < 256 ∧ hI h 46 i = nI (ix (hI h 46 i)) := fun i hi2 => by
      obtain ⟨b, b1, b2⟩ := (k4 i hi2).1
      rw [b2, show ix (nI b) = b from nI_clamp (by omega)]
      exact ⟨b1, rfl⟩
    have T : TY (fun i => ix (hI h 46 i)) n0 h := ⟨k1, k2, yv⟩
    have Tr : TYr (fun i => ix (hI h 46 i)) n0 h := ⟨k1, fun i hi2 => ⟨(yv i hi2).1, by rw [(k4 i hi2).2]; exact congrArg z_i2b (yv i hi2).2⟩, wd⟩
    obtain ⟨N1, o, h2, r1, g1, a1, -, -, -, -, -, -, a8⟩ := j_reads T Tr k3
    rw [a1, Option.bind_some, lt_eq]
    rcases a8 with ⟨o1, -, o3, -⟩ | ⟨o1, -, -, o4⟩
    · -- a fault
      rw [o1, nq_none, p_refuse, Option.bind_some]
      show ∃ h2_1, ((some ((-6 : Int32), rfC (sI (sI h2 0 14 (hI h2 47 9)) 45 1 0) (-6))).bind fun u => (s_Mod_law u.2).bind fun w => if u.1 = w.1 then some w.2 else none) = some h2_1 ∧ _
      rw [Option.bind_some]
      have E1 : eqO sLw h (rfC (sI (sI h2 0 14 (hI h2 47 9)) 45 1 0) (-6)) := eqO_rfC (eqO_sI (eqO_sI (eqO_mono o3 sR3_Lw) (by decide)) (by decide)) (by decide) (by decide)
      have at1 : ∀ j, j ≠ 0 → j ≠ 45 → j ≠ 83 → hI (rfC (sI (sI h2 0 14 (hI h2 47 9)) 45 1 0) (-6)) j = hI h2 j := fun j q1 q2 q3 => by rw [rfC_at _ _ _ q1 q3, hI_sI_ne q2, hI_sI_ne q1]
      have at2 : ∀ j, j ≠ 0 → j ≠ 45 → j ≠ 83 → sR3 j = false → hI (rfC (sI (sI h2 0 14 (hI h2 47 9)) 45 1 0) (-6)) j = hI h j := fun j q1 q2 q3 q4 => by rw [at1 j q1 q2 q3]; exact (o3.2 j q4).1
      obtain ⟨N, o', h2', r, g2, b1, b2, b3, b4, b5, b6, b7, b8⟩ := j_reads T (TYr_of (g := rfC (sI (sI h2 0 14 (hI h2 47 9)) 45 1 0) (-6)) Tr (fun j hj => by rcases hj with rfl | rfl <;> exact at2 _ (by decide) (by decide) (by decide) (by decide))) (by rw [at2 84 (by decide) (by decide) (by decide) (by decide)]; exact k3)
      rw [a1] at b1
      cases b1
      rcases b8 with ⟨-, r0, -, p, p1, p2, p3⟩ | ⟨bad, -⟩
      · have eM : s_Mod_law (rfC (sI (sI h2 0 14 (hI h2 47 9)) 45 1 0) (-6)) = some (-6, rfR g2 (-6)) := by
          unfold s_Mod_law
          rw [ib_some _ (by decide) (by decide), show ix (189 : Int32) = 189 from rfl, at2 86 (by decide) (by decide) (by decide) (by decide), e189, if_neg (by rw [show (6 : Int32) = nI 6 from rfl, nI_eq (by omega) (by decide)]; omega), b2, Option.bind_some, r0, if_pos (show ((0 : Int32), g2).1 = 0 from rfl)]
          show ((s_Mod_refuses (-6) g2).bind _) = _
          rw [p_refR g2 (by decide), Option.bind_some]
        show ∃ h2_1, ((s_Mod_law (rfC (sI (sI h2 0 14 (hI h2 47 9)) 45 1 0) (-6))).bind _) = some h2_1 ∧ _
        rw [eM, Option.bind_some, if_pos rfl]
        have k84 : ∀ q, q ≠ 0 → lwF q = true → hI (rfR g2 (-6)) 84 q = hI h 84 q := fun q q0 q1 => by rw [rfR_84, if_neg q0, b4 q q1, at2 84 (by decide) (by decide) (by decide) (by decide)]
        refine ⟨_, rfl, _, law_no (v := -6) hi (Or.inr rfl) (eqO_rfR (eqO_trans E1 (eqO_mono b3 sSp_Lw)) (by decide) (by decide)) ?_ ?_ ?_ ?_ ?_ ?_ ?_ ?_ ?_ (fun k hk => k84 k (by omega) (by rcases hk with rfl | rfl | rfl <;> decide)) (fun q => ?_) (fun q => ?_)⟩
        · rw [rfR_at _ _ _ (by decide) (by decide), (b3.2 1 (by decide)).1]; exact at2 1 (by decide) (by decide) (by decide) (by decide)
        · rw [rfR_at _ _ _ (by decide) (by decide), (b3.2 86 (by decide)).1]; exact at2 86 (by decide) (by decide) (by decide) (by decide)
        · rw [rfR_at _ _ _ (by decide) (by decide), (b3.2 45 (by decide)).1, rfC_at _ _ _ (by decide) (by decide), hI_sI', if_pos ⟨rfl, rfl⟩]
        · rw [rfR_84, if_neg (by decide)]; exact b5
        · rw [rfR_at _ _ _ (by decide) (by decide), (b3.2 0 (by decide)).1, rfC_0, if_pos rfl]
        · rw [rfR_84, if_pos rfl]
        · rw [rfR_at _ _ _ (by decide) (by decide), (b3.2 0 (by decide)).1, rfC_0, if_neg (by decide), hI_sI_ne (by decide), hI_sI', if_neg (by omega), (o3.2 0 (by decide)).1]
        · exact k84 6 (by decide) (by decide)
        · rw [rfR_at _ _ _ (by decide) (by decide), (b3.2 0 (by decide)).1, rfC_0, if_neg (by decide), hI_sI_ne (by decide), hI_sI', if_pos ⟨rfl, rfl⟩, rfR_84, if_neg (by decide), p2, p3]
        · rw [rfR_at _ _ _ (by decide) (by decide), (b3.2 83 (by decide)).1, rfC_83, hI_sI_ne (by decide), hI_sI_ne (by decide), (o3.2 83 (by decide)).1]
        · rw [rfR_85, (b3.2 85 (by decide)).1, at2 85 (by decide) (by decide) (by decide) (by decide)]
      · rw [o1] at bad; cases bad
    · -- a law
      rw [o1, nq_some]
      obtain ⟨-, -, -, -, -, -, -, -, -, w6, -, w8, -, -, -, -, w13, w14⟩ := o4
      have l1 : ∀ j, j < 114 → j < nid h := fun j hj => lt_nid hj
      have old : ∀ j, j < 114 → sR3 j = false → hI h2 j = hI h j := fun j hj hs => ((w14 j (l1 j hj)).2.2 hs).1
      have e13' : hI (sI (sI h2 0 14 (hI h2 47 9)) 45 1 0) 1 13 = nI t0 := by rw [hI_sI_ne (by decide), hI_sI_ne (by decide), old 1 (by decide) (by decide)]; exact e13
      have nr6 : ∀ r, some (nid h) = some r → nd (sI (sI h2 0 14 (hI h2 47 9)) 45 1 0) r 101 2 := fun r er => by cases er; exact w8
      rw [lt_eq, e13', ib_nI z (by decide), oq_some nr6, lt_eq, show ix (nI t0) = t0 from nI_clamp (by omega)]
      have e13'' : hI (sR (sI (sI h2 0 14 (hI h2 47 9)) 45 1 0) 6 t0 (some (nid h))) 1 13 = nI t0 := e13'
      rw [e13'', nI_1, lt_eq, p_grant, Option.bind_some]
      have hA1 : hI (sI (sR (sI (sI h2 0 14 (hI h2 47 9)) 45 1 0) 6 t0 (some (nid h))) 1 13 (nI (t0 + 1))) 1 13 = nI (t0 + 1) := by rw [hI_sI', if_pos ⟨rfl, rfl⟩]
      rw [hA1, tp_up, Option.bind_some]
      obtain ⟨hA, ehA⟩ : ∃ hA, hA = sI (sI (sR (sI (sI h2 0 14 (hI h2 47 9)) 45 1 0) 6 t0 (some (nid h))) 1 13 (nI (t0 + 1))) 0 12 0 := ⟨_, rfl⟩
      rw [← ehA]
      show ∃ h2_1, ((s_Mod_law hA).bind fun w => if nI t0 = w.1 then some w.2 else none) = some h2_1 ∧ _
      have A0 : ∀ q, hI hA 0 q = if q = 12 then 0 else if q = 14 then -1 else hI h 0 q := fun q => by
        rw [ehA, hI_sI']
        by_cases q12 : q = 12
        · rw [if_pos ⟨rfl, q12⟩, if_pos q12]
        · rw [if_neg (fun u => q12 u.2), if_neg q12, hI_sI_ne (by decide)]
          show hI (sI (sI h2 0 14 (hI h2 47 9)) 45 1 0) 0 q = _
          rw [hI_sI_ne (by decide), hI_sI']
          by_cases q14 : q = 14
          · rw [if_pos ⟨rfl, q14⟩, if_pos q14, w13]
          · rw [if_neg (fun u => q14 u.2), if_neg q14, old 0 (by decide) (by decide)]
      have A1 : ∀ q, hI hA 1 q = if q = 13 then nI (t0 + 1) else hI h 1 q := fun q => by
        rw [ehA, hI_sI_ne (by decide), hI_sI']
        by_cases q13 : q = 13
        · rw [if_pos ⟨rfl, q13⟩, if_pos q13]
        · rw [if_neg (fun u => q13 u.2), if_neg q13]
          show hI (sI (sI h2 0 14 (hI h2 47 9)) 45 1 0) 1 q = _
          rw [hI_sI_ne (by decide), hI_sI_ne (by decide), old 1 (by decide) (by decide)]
      have AO : ∀ j, j ≠ 0 → j ≠ 1 → j ≠ 45 → hI hA j = hI h2 j := fun j q0 q1 q45 => by
        rw [ehA, hI_sI_ne q0, hI_sI_ne q1]
        show hI (sI (sI h2 0 14 (hI h2 47 9)) 45 1 0) j = _
        rw [hI_sI_ne q45, hI_sI_ne q0]
      have A45 : hI hA 45 1 = 0 := by
        rw [ehA, hI_sI_ne (by decide), hI_sI_ne (by decide)]
        show hI (sI (sI h2 0 14 (hI h2 47 9)) 45 1 0) 45 1 = 0
        rw [hI_sI', if_pos ⟨rfl, rfl⟩]
      have AL : hL hA = hL h2 := by rw [ehA]; rfl
      have AR : ∀ j q, hR hA j q = if j = 6 ∧ q = t0 then some (nid h) else hR h2 j q := fun j q => by
        rw [ehA]
        show hR (sR (sI (sI h2 0 14 (hI h2 47 9)) 45 1 0) 6 t0 (some (nid h))) j q = _
        rw [hR_sR']
        rfl
      have A3 : hA.2.2.2 = h2.2.2.2 := by rw [ehA]; rfl
      obtain ⟨N, o', h2', r, g2, b1, b2, b3, b4, b5, b6, b7, b8⟩ := j_reads T (TYr_of (g := hA) Tr (fun j hj => by rcases hj with rfl | rfl <;> (rw [AO _ (by decide) (by decide) (by decide)]; exact old _ (by decide) (by decide)))) (by rw [AO 84 (by decide) (by decide) (by decide), old 84 (by decide) (by decide)]; exact k3)
      rw [a1] at b1
      cases b1
      rcases b8 with ⟨bad, -⟩ | ⟨-, r0, p11, o4⟩
      · rw [o1] at bad; cases bad
      obtain ⟨M, s, cls, kk, u1, u2, u3, u4, u5, u6, u7, u8, u9, u10, u11, u12, u13, u14⟩ := o4
      have G86 : hI g2 86 = hI h 86 := by rw [(b3.2 86 (by decide)).1, AO 86 (by decide) (by decide) (by decide)]; exact old 86 (by decide) (by decide)
      have nn := b7.1
      have nn4 := b7.2.1
      have KP0 : KPt t0 0 (sI g2 86 (192 + t0) (nI N)) (sI g2 86 (192 + t0) (nI N)) := ⟨eqO_refl _ _, fun i hi2 => absurd hi2 (by omega), fun _ _ _ => rfl⟩
      obtain ⟨g4, c1, c2⟩ := p_keepT (t := t0) (N := N) (g0 := sI g2 86 (192 + t0) (nI N)) z (by omega) (by rw [hI_sI_ne (by decide)]; exact b6) N 0 _ (by omega) KP0
      have eM : s_Mod_law hA = some (nI t0, gdR (sI g4 86 189 (hI g4 86 189 + 1))) := by
        unfold s_Mod_law
        have e86A : hI hA 86 189 = nI t0 := by rw [AO 86 (by decide) (by decide) (by decide), old 86 (by decide) (by decide)]; exact e189
        rw [ib_some _ (by decide) (by decide), show ix (189 : Int32) = 189 from rfl, e86A, if_neg (by rw [show (6 : Int32) = nI 6 from rfl, nI_eq (by omega) (by decide)]; omega), b2, Option.bind_some, r0, if_neg (show ¬ ((1 : Int32), g2).1 = 0 from i10), ib_some _ (by decide) (by decide)]
        show (ib ((192 : Int32) + hI g2 86 189) 4998 <| lp (fun q : Int32 × Int32 × Hp => s_Mod_law_64 q.1 q.2.1 q.2.2) (hI g2 86 189, (0 : Int32), sI g2 86 (ix ((192 : Int32) + hI g2 86 189)) (hI g2 84 15))) = _
        rw [G86, e189, b6, show (192 : Int32) + nI t0 = nI (192 + t0) by rw [show (192 : Int32) = nI 192 from rfl, nI_add], ib_nI (by omega) (by decide), show ix (nI (192 + t0)) = 192 + t0 from nI_clamp (by omega)]
        exact c1
      rw [eM, Option.bind_some, if_pos rfl]
      have e4 : hI g4 86 189 = nI t0 := by rw [c2.2.2 189 (by omega) (by omega), hI_sI', if_neg (by omega), G86]; exact e189
      refine ⟨_, rfl, ?_⟩
      rw [e4, nI_1]
      obtain ⟨gF, egF⟩ : ∃ gF, gF = gdR (sI g4 86 189 (nI (t0 + 1))) := ⟨_, rfl⟩
      rw [← egF]
      show Inv (n + 1) gF
      have FO : ∀ j, j ≠ 84 → j ≠ 86 → hI gF j = hI g2 j := fun j q1 q2 => by
        rw [egF]
        show hI (sI (sI (sI g4 86 189 (nI (t0 + 1))) 84 0 0) 84 1 _) j = _
        rw [hI_sI_ne q1, hI_sI_ne q1, hI_sI_ne q2, (c2.1.2 j (decide_eq_false q2)).1, hI_sI_ne q2]
      have FL' : ∀ j, j ≠ 86 → hL gF j = hL g2 j := fun j q2 => by
        rw [egF]
        show hL g4 j = _
        rw [(c2.1.2 j (decide_eq_false q2)).2]
        rfl
      have F22 : gF.2.2 = hA.2.2 := by
        rw [egF]
        show g4.2.2 = _
        rw [c2.1.1]
        show g2.2.2 = _
        exact b3.1
      have F84 : ∀ q, hI gF 84 q = if q = 0 then 0 else if q = 1 then hI g2 84 1 + 1 else hI g2 84 q := fun q => by
        have e84 : hI (sI g4 86 189 (nI (t0 + 1))) 84 = hI g2 84 := by rw [hI_sI_ne (by decide), (c2.1.2 84 (by decide)).1, hI_sI_ne (by decide)]
        rw [egF, gdR_84, e84]
      have F86 : ∀ q, hI gF 86 q = if q = 189 then nI (t0 + 1) else hI g4 86 q := fun q => by
        rw [egF]
        show hI (sI (sI (sI g4 86 189 (nI (t0 + 1))) 84 0 0) 84 1 _) 86 q = _
        rw [hI_sI_ne (by decide), hI_sI_ne (by decide), hI_sI']
        by_cases q1 : q = 189
        · rw [if_pos ⟨rfl, q1⟩, if_pos q1]
        · rw [if_neg (fun u => q1 u.2), if_neg q1]
      have G84 : ∀ q, lwF q = true → hI g2 84 q = hI h 84 q := fun q hq => by rw [b4 q hq, AO 84 (by decide) (by decide) (by decide)]; rw [old 84 (by decide) (by decide)]
      have FR : hR gF = hR hA := by unfold hR; rw [F22]
      have F3 : gF.2.2.2 = h2.2.2.2 := by rw [F22]; exact A3
      have nid3 : nid gF = nid h2 := nid_of2 F3
      have all : ∀ j, sLw j = false → hI gF j = hI h2 j ∧ hL gF j = hL h2 j := fun j hj => by
        have hs := sLw_of hj
        refine ⟨?_, ?_⟩
        · rw [FO j (by omega) (by omega), (b3.2 j (sSp_Lw j hj)).1]; exact AO j (by omega) (by omega) (by omega)
        · rw [FL' j (by omega), (b3.2 j (sSp_Lw j hj)).2, AL]
      have kdF : ∀ r, kd gF r = kd h2 r := fun r => kd_of2 F3 r
      have rN : ∀ r, NS ≤ r → hR gF r = hR h2 r := fun r hr => by
        have : 114 ≤ r := hr
        funext q
        rw [FR, AR, if_neg (by omega)]
      have rfN : ∀ r k, NS ≤ r → rf gF r k = rf h2 r k := fun r k hr => by rw [rf_out hr, rf_out hr, rN r hr]
      have ndF : ∀ r t m, nd h2 r t m → nd gF r t m := fun r t m hh => ⟨by rw [kdF]; exact hh.1, by rw [nid3]; exact hh.2⟩
      have n114 : NS ≤ nid h := ns_nid h
      have n115 : 114 ≤ nid h := n114
      have hNF : hN gF = hN h + 3 := by
        have : hN gF = hN h2 := by unfold hN; rw [F3]
        rw [this]; exact u6
      have hSF : hS gF = hS h2 := by unfold hS; rw [F3]
      refine law_yes (y := fun i => ix (hI h 46 i)) (n0 := n0) (t0 := t0) (N := N) (M := M) (s := s) (cls := cls) (kk := kk) hi hn z e189 (fun j hj hs => ?_) (fun j hj h6 => ?_) ⟨fun r hr hl => ?_, by omega⟩ ⟨by omega, by rw [hSF]; omega⟩ (fun q => ?_) (fun t => ?_) ?_ ?_ (fun i hi2 => ?_) (fun j q1 q2 q3 q4 => ?_) ?_ ?_ ?_ ?_ ?_ ?_ u1 u2 u3 u4 ?_ (ndF _ _ _ u8) (by rw [rfN _ _ n114]; exact u9) (by rw [rfN _ _ n114]; exact u10) (ndF _ _ _ u11) (ndF _ _ _ u12) (by omega) ?_ (fun i => tC_b (fun i hi2 => (yv i hi2).1))
      · have hs3 := sR3_Lw j hs
        obtain ⟨x1, x2⟩ := all j hs
        obtain ⟨x3, x4⟩ := (w14 j (lt_nid hj)).2.2 hs3
        exact ⟨x1.trans x3, x2.trans x4⟩
      · funext q
        rw [FR, AR, if_neg (fun u => h6 u.1), (w14 j (lt_nid hj)).2.1]
      · have hs := sLw_ns r hr
        obtain ⟨x1, x2⟩ := all r hs
        obtain ⟨x3, x4, x5⟩ := w14 r hl
        obtain ⟨x6, x7⟩ := x5 (sR3_Lw r hs)
        exact ⟨(kdF r).trans x3, (rN r hr).trans x4, x1.trans x6, x2.trans x7⟩
      · rw [FO 1 (by decide) (by decide), (b3.2 1 (by decide)).1, A1]
      · rw [FR, AR, (w14 6 (lt_nid (by decide))).2.1]
        by_cases zt : t = t0
        · rw [if_pos ⟨rfl, zt⟩, if_pos zt]
        · rw [if_neg (fun u => zt u.2), if_neg zt]
      · rw [F86, if_pos rfl]
      · rw [F86, if_neg (by omega), c2.2.2 _ (by omega) (by omega), hI_sI', if_pos ⟨rfl, rfl⟩]
      · have hb := b7.2.2.2.2 i (by omega)
        rw [F86, if_neg (by omega), F86, if_neg (by omega), (c2.2.1 i hi2).1, (c2.2.1 i hi2).2, hI_sI_ne (by decide), hI_sI_ne (by decide)]
        exact ⟨hb.1, hb.2.1⟩
      · rw [F86, if_neg q1, c2.2.2 j q3 q4, hI_sI', if_neg (fun u => q2 u.2), G86]
      · rw [FO 45 (by decide) (by decide), (b3.2 45 (by decide)).1]; exact A45
      · rw [F84, if_neg (by decide), if_neg (by decide)]; exact b5
      · rw [F84, if_neg (by decide), if_neg (by decide)]; exact G84 51 (by decide)
      · unfold SS at ss ⊢
        rw [FO 0 (by decide) (by decide), (b3.2 0 (by decide)).1, A0, A0, A0, if_pos rfl, if_neg (by decide), if_neg (by decide), if_neg (by decide), if_pos rfl, F84, if_pos rfl, F84, if_neg (by decide), if_neg (by decide), F84, if_neg (by decide), if_neg (by decide), G84 6 (by decide), p11, FO 83 (by decide) (by decide), FO 85 (by decide) (by decide), (b3.2 83 (by decide)).1, (b3.2 85 (by decide)).1, AO 83 (by decide) (by decide) (by decide), AO 85 (by decide) (by decide) (by decide), old 83 (by decide) (by decide), old 85 (by decide) (by decide)]
        exact ⟨rfl, ss.2.1, rfl, ss.2.2.2⟩
      · rw [F84, if_neg (by decide), if_pos rfl, G84 1 (by decide)]
      · rw [F84, if_neg (by decide), if_neg (by decide)]; exact G84 28 (by decide)
      · intro i hi2
        have e1 : hI gF (nid h + 1) = hI h2 (nid h + 1) := (all (nid h + 1) (sLw_ns _ (by show 114 ≤ nid h + 1; omega))).1
        have e2 : hI gF (nid h + 2) = hI h2 (nid h + 2) := (all (nid h + 2) (sLw_ns _ (by show 114 ≤ nid h + 2; omega))).1
        rw [e1, e2]
        exact u5 i hi2
      · exact tC_end (by unfold tS; rw [b7.2.2.1, if_neg (by omega)])
  · have t6 : t0 = 6 := by omega
    rw [if_neg (by rw [show (6 : Int32) = nI 6 from rfl, nI_ltI (by omega) (by decide)]; exact z), p_refuse, Option.bind_some]
    show ∃ h2_1, ((some ((-5 : Int32), rfC (sI h 45 1 0) (-5))).bind fun u => (s_Mod_law u.2).bind fun w => if u.1 = w.1 then some w.2 else none) = some h2_1 ∧ _
    rw [Option.bind_some]
    have at2 : ∀ j, j ≠ 0 → j ≠ 45 → j ≠ 83 → hI (rfC (sI h 45 1 0) (-5)) j = hI h j := fun j q1 q2 q3 => by rw [rfC_at _ _ _ q1 q3, hI_sI_ne q2]
    have eM : s_Mod_law (rfC (sI h 45 1 0) (-5)) = some (-5, rfR (sI (rfC (sI h 45 1 0) (-5)) 84 10 0) (-5)) := by
      unfold s_Mod_law
      rw [ib_some _ (by decide) (by decide), show ix (189 : Int32) = 189 from rfl, at2 86 (by decide) (by decide) (by decide), e189, if_pos (by rw [t6]; rfl), p_refR _ (by decide), Option.bind_some]
    show ∃ h2_1, ((s_Mod_law (rfC (sI h 45 1 0) (-5))).bind _) = some h2_1 ∧ _
    rw [eM, Option.bind_some, if_pos rfl]
    have k84 : ∀ q, q ≠ 0 → q ≠ 10 → hI (rfR (sI (rfC (sI h 45 1 0) (-5)) 84 10 0) (-5)) 84 q = hI h 84 q := fun q q0 q1 => by rw [rfR_84, if_neg q0, hI_sI', if_neg (fun u => q1 u.2), at2 84 (by decide) (by decide) (by decide)]
    have oth : ∀ j, j ≠ 84 → j ≠ 85 → hI (rfR (sI (rfC (sI h 45 1 0) (-5)) 84 10 0) (-5)) j = hI (rfC (sI h 45 1 0) (-5)) j := fun j q1 q2 => by rw [rfR_at _ _ _ q1 q2, hI_sI_ne q1]
    refine ⟨_, rfl, _, law_no (v := -5) hi (Or.inl rfl) (eqO_rfR (eqO_sI (eqO_rfC (eqO_sI (eqO_refl _ _) (by decide)) (by decide) (by decide)) (by decide)) (by decide) (by decide)) ?_ ?_ ?_ ?_ ?_ ?_ ?_ ?_ ?_ (fun k hk => k84 k (by omega) (by omega)) (fun q => ?_) (fun q => ?_)⟩
    · rw [oth 1 (by decide) (by decide)]; exact at2 1 (by decide) (by decide) (by decide)
    · rw [oth 86 (by decide) (by decide)]; exact at2 86 (by decide) (by decide) (by decide)
    · rw [oth 45 (by decide) (by decide), rfC_at _ _ _ (by decide) (by decide), hI_sI', if_pos ⟨rfl, rfl⟩]
    · rw [rfR_84, if_neg (by decide), hI_sI', if_pos ⟨rfl, rfl⟩]
    · rw [oth 0 (by decide) (by decide), rfC_0, if_pos rfl]
    · rw [rfR_84, if_pos rfl]
    · rw [oth 0 (by decide) (by decide), rfC_0, if_neg (by decide), hI_sI_ne (by decide)]
    · exact k84 6 (by decide) (by decide)
    · rw [oth 0 (by decide) (by decide), rfC_0, if_neg (by decide), hI_sI_ne (by decide), k84 11 (by decide) (by decide)]
      exact ss.2.2.1
    · rw [oth 83 (by decide) (by decide), rfC_83, hI_sI_ne (by decide)]
    · rw [rfR_85, hI_sI_ne (by decide), at2 85 (by decide) (by decide) (by decide)]
