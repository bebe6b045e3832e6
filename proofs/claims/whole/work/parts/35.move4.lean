/-! ===== the two sides: move ===== -/
theorem lh_of_known {n t nm p : Nat} {C : CS} {M : MS} (hR : R0 n C M) (ht : t < n) (hnm : nm < 1000) (hp : p < 100) (hk : mA M 9 (1000 * t + nm) = nI (p + 1)) : lh C t (nI nm) = some p := by
  have hc := hR.2.2.2.2.1 t ht
  have hE : cN C 5 t 3 ≤ 100 := by have := hR.1.1 t; have := cap_le t; omega
  cases hl : lh C t (nI nm) with
  | none =>
    have := cat_none hc hnm hl
    rw [hk] at this
    exact absurd this (nI_ne0 (by omega) (by omega))
  | some j =>
    have h1 := cat_some hc hnm hl
    have lj := hc.lt (lh_some hl).1
    have := (nI_eq (a := p + 1) (b := j + 1) (by omega) (by omega)).mp (hk.symm.trans h1)
    have e : j = p := by omega
    rw [e]
theorem Kp_mo0 {M : MS} : Kp M (mo0 M 1) 0 := by unfold mo0; exact ((Kp_A (Or.inr (by decide))).tr (Kp_A (Or.inr (by decide)))).tr (Kp_A (Or.inr (by decide)))
theorem Kp_moN {M : MS} (h0 : mF M 30 = 0) : Kp M (moN M 1) 0 := ⟨fun j hj => by unfold moN; rw [mA_smF, mA_ni (by decide)]; exact Kp_mo0.1 j hj, fun _ => h0⟩
theorem mo0_15' {M : MS} {mm : Nat} : mA (mo0 M mm) 15 mm = -1 := by unfold mo0; rw [mA_nj (by decide), mA_nj (by decide), mA_self]
theorem mo0_18 {M : MS} {mm : Nat} : mA (mo0 M mm) 18 mm = 0 := by unfold mo0; rw [mA_nj (by decide), mA_self]
theorem moN_15 {M : MS} {mm : Nat} : mA (moN M mm) 15 mm = -1 := by unfold moN; rw [mA_smF, mA_self]
theorem moN_18 {M : MS} {mm : Nat} : mA (moN M mm) 18 mm = 0 := by unfold moN; rw [mA_smF, mA_nj (by decide)]; exact mo0_18
theorem Rb_mo0 {n mm : Nat} {C : CS} {M : MS} (h : Rb n C M) : Rb n C (mo0 M mm) := by unfold mo0; exact Rb_A (by omega) (Rb_A (by omega) (Rb_A (by omega) h))
theorem Rb_moN {n mm : Nat} {C : CS} {M : MS} (h : Rb n C M) : Rb n C (moN M mm) := by unfold moN; exact Rb_F (by decide) (Rb_A (by omega) (Rb_mo0 h))
theorem mo0_F {M : MS} {mm : Nat} : mF (mo0 M mm) = mF M := rfl
theorem moN_F {M : MS} {mm k : Nat} (h : k ≠ 30) : mF (moN M mm) k = mF M k := by unfold moN; rw [mF_smF, if_neg h]; rfl
theorem moN_A {M : MS} {mm j i : Nat} (h : j ≠ 15 ∧ j ≠ 17 ∧ j ≠ 18) : mA (moN M mm) j i = mA M j i := by unfold moN; rw [mA_smF, mA_nj h.1, mo0_A h]
/-- a move that has failed: its first mount ends -/
theorem mv_fail {n d1 t1 : Nat} {C Cx : CS} {M Z : MS} {w : Int32} (hB : R0 n C M) (h27 : mF M 27 = cF C 0 0 5 + 1) (h28 : mF M 28 = cF C 0 0 6) (hd1 : d1 < 3) (ht1 : t1 < n) (hb : Rb n Cx Z) (hS : Sl Cx Z 0 d1) (hI : Iv Cx) (hH : Hh n Cx) (hx : Ex C Cx) (hp : cN Cx 3 d1 8 < 2 ^ 31) (hcM : ∀ d', cM Cx d' = if d' = d1 then some t1 else cM C d') (h10 : ∀ d', mA Z 10 d' = if d' = d1 then 1 else mA M 10 d') (h9 : ∀ i, mA Z 9 i = mA M 9 i) (hF : ∀ k, 20 ≤ k → k ≤ 28 → k ≠ 24 ∧ k ≠ 25 ∧ k ≠ 26 → mF Z k = mF M k) (hw : mF Z 30 = w) (hneg : w < 0) : RR n (couC (briC Cx d1 t1) w) (menE (munM Z 0 d1 t1)) ∧ ∀ x, menR (munM Z 0 d1 t1) x = w := by
  have he := mount_end hB hd1 ht1 hb hS hI hH hx hp hcM h10 (fun k h1 h2 => hF k h1 (by omega) (by omega))
  rw [set9_id (fun i => by rw [munM_A (by decide)]; exact h9 i)] at he
  have u30 : mF (munM Z 0 d1 t1) 30 = w := (munM_F (by decide)).trans hw
  have wn : w ≠ 0 := fun q => by rw [q] at hneg; exact absurd hneg (by decide)
  have jb := (hx.tr (briC_x (d := d1) (t := t1))).2.2.2.2.2
  refine ⟨RR_end he ?_ ?_ ⟨fun q => absurd hneg (Int32.not_lt.mpr q), fun q => absurd (u30.symm.trans q) wn⟩, fun x => menR_ne u30 wn⟩
  · rw [jb.1, munM_F (by decide), hF 27 (by decide) (by decide) (by decide)]; exact h27
  · rw [jb.2, munM_F (by decide), hF 28 (by decide) (by decide) (by decide)]; exact h28
theorem mv_sim (l : Launch) (G : GG) (D : CS) {n t1 t2 nm p : Nat} {C : CS} {M : MS} (hR : RR n C M) (hn : n ≤ 12) (ht1 : t1 < n) (ht2 : t2 < n) (htt : t1 ≠ t2) (hnm : nm < 1000) (hx : nameP (nI nm)) (hl : lh C t1 (nI nm) = some p) : ∃ M', Ct l G yX5_move cX5_move 9 (some .int) 3 67 [.ref (zad G 12 0), .int (nI nm), .int (nI t1), .int (nI t2)] D M (some (.int (mjC C t1 p t2).1)) D M' ∧ RR n (couC (mjC C t1 p t2).2 (mjC C t1 p t2).1) M' := by
  obtain ⟨hB, hB30, hB27, hB28⟩ := RR_beg hR
  have hRb := hR.1.2.2.1
  have hM0 : mF M 0 = nI n := Rn hR.1
  obtain ⟨k9, k7, kf, k1, kh⟩ := Kn_of hR.1 ht1 hnm hl
  have hp100 : p < 100 := by omega
  have he1 : cN C 5 t2 3 ≤ 100 := by have := hR.1.1.1 t2; have := cap_le t2; omega
  obtain ⟨r1, r2, _, _⟩ := hRb.2.2.1 t2 ht2
  have hmd : mdC (mbeg M) (cN C 9 t1 0) = ndC C t1 := nd_eq hB.2.2.1 (Rm_0 hB)
  cases hN : ndC C t1 with
  | none =>
    have e1 : mjC C t1 p t2 = (-3, C) := by unfold mjC; rw [hN]
    have hX30 : mF (moN (mbeg M) 0) 30 = -3 := rfl
    have hm0 := c_mount_n l G D (mbeg M) (mm := 0) (by decide) hB30 (t := t1) (h := cN C 9 t1 0) (by omega) k1 kh (hmd.trans hN)
    have hm1 := c_mount_f l G D (moN (mbeg M) 0) (mm := 1) (by decide) (show ¬ ((-3 : Int32) = 0) by decide) (t := t2) (by omega)
    have h15 : mA (mo0 (moN (mbeg M) 0) 1) 15 0 = -1 := (Kp_mo0.1 15 (by decide)).trans moN_15
    have hct := m_mov_d l G D M hn hM0 ht1 ht2 hnm hx htt k9 k7 kf r2 he1 hm0 hm1 (show ¬ ((-3 : Int32) = 0) by decide) mo0_15' mo0_18 (Or.inl ⟨h15, rfl⟩)
    have h30 : mF (mo0 (moN (mbeg M) 0) 1) 30 = -3 := rfl
    rw [menR_ne h30 (by decide)] at hct
    rw [e1]
    refine ⟨_, hct, RR_end (w := -3) (M := mo0 (moN (mbeg M) 0) 1) ?_ hB27 hB28 ⟨fun q => absurd q (by decide), fun q => absurd (h30.symm.trans q) (by decide)⟩⟩
    unfold mo0
    exact R0_A (by decide) (R0_A (by decide) (R0_A (by decide) (R0_moN hB)))
  | some d1 =>
    obtain ⟨hd1, hr1⟩ := nd_some hN
    have e1 : mjC C t1 p t2 = mjD C d1 t1 p t2 := by unfold mjC; rw [hN]
    rw [e1]
    have hm0 := c_mount_s l G D (mbeg M) (mm := 0) (by decide) hB30 (t := t1) (h := cN C 9 t1 0) (by omega) k1 kh (hmd.trans hN)
    obtain ⟨X, hX⟩ : ∃ X, X = moD (mbeg M) 0 t1 (cN C 9 t1 0) d1 := ⟨_, rfl⟩
    rw [← hX] at hm0
    have hJ0 : Jm X 0 d1 t1 0 := by rw [hX]; exact J_mo (by omega) hd1
    obtain ⟨a1, a2, a3, a4, a5⟩ := car_b (mm := 0) hB.2.2.1 hB30 hd1 ht1
    rw [← hX] at a1 a2 a3 a4
    have hXI : Iv (carC C d1 t1).2 := carC_I hB.1
    have hXH : Hh n (carC C d1 t1).2 := Hh_Sm (Hh_of hB.2.2.2.2.2.1 (fun _ _ _ => rfl) : Hh n (sM C d1 (some t1))) Sm_carC
    have hX8 : cN (carC C d1 t1).2 3 d1 8 = 0 := carC_pos
    have hX9 : ∀ t, cN (carC C d1 t1).2 9 t 0 = cN C 9 t 0 := fun t => carC_N (by decide)
    have hX5 : cN (carC C d1 t1).2 5 t2 3 = cN C 5 t2 3 := carC_N (by decide)
    have hXj : ∀ d', cF (carC C d1 t1).2 3 d' 4 = cF C 3 d' 4 := fun d' => carC_j
    have hXk : ∀ f b a, kAt (carC C d1 t1).2 f b a = kAt C f b a := fun f b a => Sm_carC.k f b a
    have hXz : zN (carC C d1 t1).2 t1 p = zN C t1 p := by unfold zN; rw [hXk]
    have hcr := carC_r C d1 t1
    have hcM : ∀ d', cM (carC C d1 t1).2 d' = if d' = d1 then some t1 else cM C d' := fun d' => carC_M d'
    have x10 : ∀ d', mA X 10 d' = if d' = d1 then 1 else mA (mbeg M) 10 d' := fun d' => by rw [hX, moD_10]
    have xA : ∀ j i, (j ≠ 3 ∧ j ≠ 10 ∧ j ≠ 13) → j < 15 → mA X j i = mA M j i := fun j i h1 h2 => by rw [hX, moD_A h1 (Or.inl h2)]; rfl
    have xF : ∀ k, 20 ≤ k → k ≤ 28 → k ≠ 24 ∧ k ≠ 25 ∧ k ≠ 26 → mF X k = mF (mbeg M) k := fun k h1 h2 h3 => by rw [hX, moD_F (by omega)]
    have hRm : Rm (carC C d1 t1).2 X := fun d' hd' => by
      rw [x10, hcM]
      by_cases e : d' = d1
      · rw [if_pos e, if_pos e]; exact ⟨fun q => absurd q (by decide), fun q => by cases q⟩
      · rw [if_neg e, if_neg e]; exact ⟨fun _ => hB.2.1 d', fun _ => hB.2.2.2.1 d' hd'⟩
    unfold mjD mj1
    generalize hQ : carC C d1 t1 = Q at a1 a2 a3 a4 a5 hXI hXH hX8 hX9 hX5 hXj hXk hXz hcr hcM hRm ⊢
    have h2X : mA X 1 t2 = nI (cN Q.2 9 t2 0) := by rw [xA _ _ (by decide) (by decide), hX9]; exact r1
    by_cases z : Q.1 = 0
    · rw [if_neg (fun q => q z)]
      have zX : mF X 30 = 0 := a2.symm.trans z
      have hmd2 : mdC X (cN Q.2 9 t2 0) = ndC Q.2 t2 := nd_eq a1 hRm
      have hh2 : cN Q.2 9 t2 0 < 32 := by rw [hX9]; exact hB.1.2.2 t2
      cases hN2 : ndC Q.2 t2 with
      | none =>
        have em : miC Q.2 d1 t1 t2 p = (-3, Q.2) := by unfold miC; rw [hN2]
        rw [em]
        rw [if_pos (show ((-3 : Int32), Q.2).1 < 0 from (show (-3 : Int32) < 0 by decide))]
        have hm1 := c_mount_n l G D X (mm := 1) (by decide) zX (t := t2) (h := cN Q.2 9 t2 0) (by omega) h2X hh2 (hmd2.trans hN2)
        have hct := m_mov_d l G D M hn hM0 ht1 ht2 hnm hx htt k9 k7 kf r2 he1 hm0 hm1 (show ¬ ((-3 : Int32) = 0) by decide) moN_15 moN_18 (Or.inr ⟨d1, t1, (Kp_moN zX).U hJ0.U, rfl⟩)
        obtain ⟨f1, f2⟩ := mv_fail (Z := moN X 1) (w := -3) hB hB27 hB28 hd1 ht1 (Rb_moN a1) (Sl_of a3 rfl rfl (fun j hj => (Kp_moN zX).1 j hj)) hXI hXH a5 (by rw [hX8]; decide) hcM (fun d' => by rw [moN_A (by decide)]; exact x10 d') (fun i => by rw [moN_A (by decide), xA _ _ (by decide) (by decide)]; rfl) (fun k h1 h2 h3 => by rw [moN_F (by omega)]; exact xF k h1 h2 h3) rfl (by decide)
        rw [f2] at hct
        exact ⟨_, hct, f1⟩
      | some d2 =>
        obtain ⟨hd2, hr2⟩ := nd_some hN2
        have hdd : d1 ≠ d2 := fun q => by
          have := hr2.2
          rw [← q, hcM, if_pos rfl] at this
          cases this
        have em : miC Q.2 d1 t1 t2 p = ((mi1 Q.2 d1 t1 d2 t2 p).1, briC (mi1 Q.2 d1 t1 d2 t2 p).2 d2 t2) := by unfold miC; rw [hN2]
        rw [em]
        have hm1 := c_mount_s l G D X (mm := 1) (by decide) zX (t := t2) (h := cN Q.2 9 t2 0) (by omega) h2X hh2 (hmd2.trans hN2)
        obtain ⟨Y, hY⟩ : ∃ Y, Y = moD X 1 t2 (cN Q.2 9 t2 0) d2 := ⟨_, rfl⟩
        rw [← hY] at hm1
        have hJX : Jm Y 0 d1 t1 0 := by rw [hY]; exact (moD_1 zX).J hJ0
        have hJY : Jm Y 1 d2 t2 0 := by rw [hY]; exact J_mo (by omega) hd2
        have yA : ∀ j i, (j ≠ 3 ∧ j ≠ 10 ∧ j ≠ 13) → j < 15 → mA Y j i = mA M j i := fun j i h1 h2 => by rw [hY, moD_A h1 (Or.inl h2)]; exact xA j i h1 h2
        have heY : mA Y 2 t2 = nI (cN C 5 t2 3) := by rw [yA _ _ (by decide) (by decide)]; exact r2
        have hct := m_mov_a l G D M hn hM0 ht1 ht2 hnm hx htt k9 k7 kf r2 he1 hm0 hm1 hJX hJY heY
        obtain ⟨Z, hZ⟩ : ∃ Z, Z = mclM (mmvK (mmvX Y d1 t1 d2 t2 p (zN Q.2 t1 p) (cN Q.2 5 t2 3)) t1 t2 nm (cN Q.2 5 t2 3)) 1 d2 t2 (cN Q.2 5 t2 3) := ⟨_, rfl⟩
        obtain ⟨p1, p2, p3, p4, p5, p6, p7, p8, p9, p10⟩ := mi1_b a1 zX (a4 z) hX8 (by rw [hXj]; exact hr1.1) hXI hXH hn hd1 ht1 hd2 ht2 hdd htt hr2.1 (by rw [hXz]; exact kf) hY hZ
        have pM := mi1_M Q.2 d1 t1 d2 t2 p
        have eD : mmvD Y d1 t1 d2 t2 nm p (zN C t1 p) (cN C 5 t2 3) = munM (munM Z 1 d2 t2) 0 d1 t1 := by unfold mmvD mmvU; rw [hZ, hXz, hX5]
        rw [eD] at hct
        generalize mi1 Q.2 d1 t1 d2 t2 p = V at p1 p2 p3 p4 p5 p6 p7 p8 p9 p10 pM ⊢
        have hKA : ∀ (N : MS) j i, j ≠ 9 → mA (mmvK N t1 t2 nm (cN Q.2 5 t2 3)) j i = mA N j i := fun N j i hj => by unfold mmvK; split; rw [mA_nj hj, mA_nj hj]; rfl
        have hKF : ∀ (N : MS) k, mF (mmvK N t1 t2 nm (cN Q.2 5 t2 3)) k = mF N k := fun N k => by unfold mmvK; split <;> rfl
        -- the second mount's end
        have hb2 : Rb n (briC V.2 d2 t2) (munM Z 1 d2 t2) := bri_b p1 hd2 ht2 p7.2 p2
        have hS2 : Sl (briC V.2 d2 t2) (munM Z 1 d2 t2) 0 d1 := Sl_of p3 rfl rfl (fun j hj => (Kp_un (by decide)).1 j hj)
        have hx2 : Ex C (briC V.2 d2 t2) := a5.tr (p6.tr briC_x)
        have cM2 : ∀ d', cM (briC V.2 d2 t2) d' = if d' = d1 then some t1 else cM C d' := fun d' => by
          rw [briC_M]
          by_cases e : d' = d2
          · rw [if_pos e, if_neg (fun q => hdd (q.symm.trans e)), hB.2.1]
          · rw [if_neg e, pM, if_neg e]; exact hcM d'
        have z10 : ∀ d', mA (munM Z 1 d2 t2) 10 d' = if d' = d1 then 1 else mA (mbeg M) 10 d' := fun d' => by
          rw [munM_10]
          by_cases e : d' = d2
          · rw [if_pos e, if_neg (fun q => hdd (q.symm.trans e)), e]; exact (hB.2.2.2.1 d2 hd2).symm
          · rw [if_neg e, hZ, mclM_A (by omega), hKA _ _ _ (by decide), mmvX_A (by decide) (by decide), hY, moD_10, if_neg e]; exact x10 d'
        have zF : ∀ k, 20 ≤ k → k ≤ 28 → k ≠ 24 ∧ k ≠ 25 ∧ k ≠ 26 → mF (munM Z 1 d2 t2) k = mF (mbeg M) k := fun k h1 h2 h3 => by
          rw [munM_F (by omega), hZ, mclM_F (by omega), hKF, mmvX_F (by omega), hY, moD_F (by omega)]; exact xF k h1 h2 h3
        have z30 : mF (munM Z 1 d2 t2) 30 = mF Z 30 := munM_F (by decide)
        have w9 : ∀ i, mA (mmvX Y d1 t1 d2 t2 p (zN Q.2 t1 p) (cN Q.2 5 t2 3)) 9 i = mA (mbeg M) 9 i := fun i => by rw [mmvX_A (by decide) (by decide), yA _ _ (by decide) (by decide)]; rfl
        have wL : mF (mmvX Y d1 t1 d2 t2 p (zN Q.2 t1 p) (cN Q.2 5 t2 3)) 30 = mF Z 30 := by rw [hZ, mclM_F (by decide), hKF]
        by_cases zz : mF Z 30 = 0
        · have w0 : V.1 = nI (cN C 5 t2 3) := by rw [p8, if_pos zz, hX5]
          have wn : ¬ V.1 < 0 := by rw [w0]; exact nI_pos (by omega)
          have wc : V.1.toNatClampNeg = cN C 5 t2 3 := by rw [w0]; exact nI_clamp (by omega)
          have u30 : mF (munM (munM Z 1 d2 t2) 0 d1 t1) 30 = 0 := by rw [munM_F (by decide), z30]; exact zz
          rw [menR_0 u30, ← w0] at hct
          refine ⟨_, hct, ?_⟩
          show RR n (couC (if V.1 < 0 then briC (briC V.2 d2 t2) d1 t1 else sB (listC (briC (briC V.2 d2 t2) d1 t1) t2 V.1.toNatClampNeg) 11 t1 p 0) V.1) _
          rw [if_neg wn, wc]
          have hend0 := mount_end hB hd1 ht1 hb2 hS2 (briC_I p4) (Hh_bri p5) hx2 (show cN V.2 3 d1 8 < 2 ^ 31 from p7.1) cM2 z10 (fun k h1 h2 => zF k h1 (by omega) (by omega))
          obtain ⟨f1, f2⟩ := p10 zz
          rw [hX5, hXz] at f1
          rw [hX5, hXz] at f2
          have hpl := hB.2.2.2.2.1 t1 ht1
          have hs := lh_some hl
          have hlt := hpl.lt hs.1
          have g6 : kAt V.2 6 t2 (cN C 5 t2 3) = 1 := by
            have := f2 6 0 (by decide) (by omega)
            rw [Nat.add_zero, Nat.add_zero, hXk] at this
            rw [this]; exact (hpl.1 p hs.1).1
          have g7 : kAt V.2 7 t2 (cN C 5 t2 3) = nI nm := by
            have := f2 7 0 (by decide) (by omega)
            rw [Nat.add_zero, Nat.add_zero, hXk] at this
            rw [this]; unfold kAt; rw [if_pos hlt]; exact hs.2
          have g8 : zN V.2 t2 (cN C 5 t2 3) = zN C t1 p := by
            have := f2 8 0 (by decide) (by omega)
            rw [Nat.add_zero, Nat.add_zero, hXk] at this
            unfold zN; rw [this]
          have hl1 := R0_list (h := cN C 5 t2 3) (nm := nm) hend0 hn ht2 hnm g6 g7 (by show cN C 5 t2 3 + zN V.2 t2 (cN C 5 t2 3) + 1 < cN V.2 5 t2 3; rw [g8, f1]; omega)
          have hk1 : mA (smA (set9 (munM (munM Z 1 d2 t2) 0 d1 t1) (mA (mbeg M) 9)) 9 (1000 * t2 + nm) (nI (cN C 5 t2 3 + 1))) 9 (1000 * t1 + nm) = nI (p + 1) := by
            rw [mA_ni (by omega), mA_set9, if_pos rfl]; exact k9
          have hl2 := R0_unlist (j := p) hl1 ht1 hnm (lh_of_known hl1 ht1 hnm hp100 hk1)
          have eM : smA (smA (set9 (munM (munM Z 1 d2 t2) 0 d1 t1) (mA (mbeg M) 9)) 9 (1000 * t2 + nm) (nI (cN C 5 t2 3 + 1))) 9 (1000 * t1 + nm) 0 = munM (munM Z 1 d2 t2) 0 d1 t1 := by
            refine MS_ext (fun _ => rfl) (fun j i => ?_)
            rw [mA_smA, mA_smA, mA_set9]
            by_cases e9 : j = 9
            · subst e9
              rw [munM_A (by decide), munM_A (by decide), hZ, mclM_A (by omega)]
              unfold mmvK
              rw [if_pos (wL.trans zz), mA_smA, mA_smA, w9, hX5, if_pos (show (9 : Nat) = 9 from rfl)]
            · rw [if_neg (fun q => e9 q.1), if_neg (fun q => e9 q.1), if_neg e9]
          rw [eM] at hl2
          have jl : cF (sB (listC (briC (briC V.2 d2 t2) d1 t1) t2 (cN C 5 t2 3)) 11 t1 p 0) = cF (briC (briC V.2 d2 t2) d1 t1) := listC_F.1
          have jb := (hx2.tr (briC_x (d := d1) (t := t1))).2.2.2.2.2
          have g27 : mF (munM (munM Z 1 d2 t2) 0 d1 t1) 27 = cF C 0 0 5 + 1 := by rw [munM_F (by decide), zF 27 (by decide) (by decide) (by decide)]; exact hB27
          have g28 : mF (munM (munM Z 1 d2 t2) 0 d1 t1) 28 = cF C 0 0 6 := by rw [munM_F (by decide), zF 28 (by decide) (by decide) (by decide)]; exact hB28
          rw [← jb.1, ← jl] at g27
          rw [← jb.2, ← jl] at g28
          exact RR_end hl2 g27 g28 ⟨fun _ => u30, fun _ => by rw [w0]; exact nI_pos' (by omega)⟩
        · have wn : V.1 < 0 := Int32.not_le.mp (fun q => zz (p9.mp q))
          have w0 : V.1 = mF Z 30 := by rw [p8, if_neg zz]
          obtain ⟨f1, f2⟩ := mv_fail (Z := munM Z 1 d2 t2) (w := V.1) hB hB27 hB28 hd1 ht1 hb2 hS2 (briC_I p4) (Hh_bri p5) hx2 (show cN V.2 3 d1 8 < 2 ^ 31 from p7.1) cM2 z10 (fun i => by
            rw [munM_A (by decide), hZ, mclM_A (by omega)]
            unfold mmvK
            rw [if_neg (by rw [wL]; exact zz)]; exact w9 i) zF (z30.trans w0.symm) wn
          rw [f2] at hct
          refine ⟨_, hct, ?_⟩
          show RR n (couC (if V.1 < 0 then briC (briC V.2 d2 t2) d1 t1 else sB (listC (briC (briC V.2 d2 t2) d1 t1) t2 V.1.toNatClampNeg) 11 t1 p 0) V.1) _
          rw [if_pos wn]
          exact f1
    · rw [if_pos z]
      have zX : mF X 30 ≠ 0 := by rw [← a2]; exact z
      have z4 : Q.1 = -4 := hcr.resolve_left z
      have hm1 := c_mount_f l G D X (mm := 1) (by decide) zX (t := t2) (by omega)
      have hct := m_mov_d l G D M hn hM0 ht1 ht2 hnm hx htt k9 k7 kf r2 he1 hm0 hm1 zX mo0_15' mo0_18 (Or.inr ⟨d1, t1, Kp_mo0.U hJ0.U, rfl⟩)
      obtain ⟨f1, f2⟩ := mv_fail (Z := mo0 X 1) (w := Q.1) hB hB27 hB28 hd1 ht1 (Rb_mo0 a1) (Sl_of a3 rfl rfl (fun j hj => Kp_mo0.1 j hj)) hXI hXH a5 (by rw [hX8]; decide) hcM (fun d' => by rw [mo0_A (by decide)]; exact x10 d') (fun i => by rw [mo0_A (by decide), xA _ _ (by decide) (by decide)]; rfl) (fun k h1 h2 h3 => xF k h1 h2 h3) a2.symm (by rw [z4]; decide)
      rw [f2] at hct
      refine ⟨_, hct, ?_⟩
      rw [if_pos (show Q.1 < 0 by rw [z4]; decide)]
      exact f1
theorem t_move (l : Launch) (G : GG) (D : CS) {n : Nat} {C : CS} {M : MS} (hR : RR n C M) (hn : n ≤ 12) (x y z : Int32) : ∃ M', Ct l G yX5_move cX5_move 9 (some .int) 3 67 [.ref (zad G 12 0), .int x, .int y, .int z] D M (some (.int (movT n C x y z).1)) D M' ∧ RR n (movT n C x y z).2 M' := by
  have hM0 : mF M 0 = nI n := Rn hR.1
  by_cases hx : nameP x
  · unfold movT
    obtain ⟨nm, hnm, rfl⟩ := name_arg hx
    rcases tape_cases hn y with hb | ⟨t1, ht1, rfl, hb, htx⟩
    · rw [if_pos hb]; exact ⟨M, m_mov_b l G D M hn hM0 hx hb z, hR⟩
    · rw [if_neg hb, htx]
      rcases tape_cases hn z with hb2 | ⟨t2, ht2, rfl, hb2, htx2⟩
      · rw [if_pos hb2]; exact ⟨M, m_mov_c l G D M hn hM0 hx ht1 hb2, hR⟩
      · rw [if_neg hb2, if_pos hx, htx2]
        by_cases hs : t1 = t2
        · rw [if_pos hs]; exact ⟨M, m_mov_s l G D M hn hM0 ht1 ht2 hnm hx hs, hR⟩
        · rw [if_neg hs]
          cases hl : lh C t1 (nI nm) with
          | none => exact ⟨M, m_mov_0 l G D M hn hM0 ht1 ht2 hnm hx hs (cat_none (hR.1.2.2.2.2.1 t1 ht1) hnm hl), hR⟩
          | some p => exact mv_sim l G D hR hn ht1 ht2 hs hnm hx hl
  · have e : movT n C x y z = (-1, C) := by
      unfold movT
      by_cases q : badT n y
      · rw [if_pos q]
      · rw [if_neg q]
        by_cases q2 : badT n z
        · rw [if_pos q2]
        · rw [if_neg q2, if_neg hx]
    rw [e]
    exact ⟨M, m_mov_n l G D M hx y z, hR⟩
