/-! ===== the two sides: read, salvage ===== -/
theorem smF_id {M : MS} {k : Nat} {v : Int32} (h : mF M k = v) : smF M k v = M := MS_ext (fun k' => by
  rw [mF_smF]; split
  · rename_i q; rw [q, h]
  · rfl) (fun _ _ => rfl)
theorem Rb_fold {n : Nat} {C : CS} {M : MS} {x y : Int32} (h : Rb n C M) (e : y = x) : Rb n (sF C 0 0 7 x) (smF M 24 y) := by
  subst e
  obtain ⟨⟨g0, g1, g2, g3, g4⟩, gd, gt, gk, gz⟩ := h
  refine ⟨?_, fun d q => Rd_of (gd d q) (fun k => by rw [cF_sF, if_neg (by omega)]) (fun _ _ _ _ => rfl), fun t q => Rt_of (gt t q) rfl rfl (fun k => by rw [cF_sF, if_neg (by omega)]) (fun _ _ _ _ => rfl), fun t a q q2 => Rk_of (gk t a q q2) rfl (fun _ _ => rfl) (fun _ _ _ _ => rfl), gz⟩
  unfold Rg; simp [cF_sF, mF_smF, g0, g2, g3, g4]
theorem rfS_N {C : CS} {t a : Nat} {w : Int32} : cN (rfS C t a w) = cN C := by unfold rfS; split; rfl; split <;> rfl
theorem rfS_j {C : CS} {t a d : Nat} {w : Int32} : cF (rfS C t a w) 3 d 4 = cF C 3 d 4 := by unfold rfS; split; rfl; split <;> rfl
theorem Ex_rfS {C : CS} {t a : Nat} {w : Int32} : Ex C (rfS C t a w) := by
  unfold rfS; split
  · exact Ex.rf
  · split
    · exact Ex_F (Or.inr (by decide))
    · exact Ex.rf
theorem rf_b {n d t : Nat} (hd : d < 3) (ht : t < n) : ∀ (k a : Nat) (w : Int32) (C : CS) (M : MS), Rb n C M → w = mF M 30 → SL C M 0 d → (w = 0 → cF C 3 d 4 = 0 ∧ cN C 3 d 8 = a) → a + k ≤ 100 →
    Rb n (rfL d t k a w C).2 (mrfL d t k a M) ∧ (rfL d t k a w C).1 = mF (mrfL d t k a M) 30 ∧ SL (rfL d t k a w C).2 (mrfL d t k a M) 0 d ∧ Ex C (rfL d t k a w C).2 := by
  intro k
  induction k with
  | zero => intro a w C M h hw hS _ _; exact ⟨h, hw, hS, Ex.rf⟩
  | succ k ih =>
    intro a w C M h hw hS h0 hb
    unfold rfL mrfL
    by_cases z : w = 0
    · obtain ⟨hj, hq⟩ := h0 z
      have z30 : mF M 30 = 0 := hw.symm.trans z
      rw [if_neg (fun q => q z), if_neg (fun q => q z30)]
      obtain ⟨p1, p2, p3, p4, p5⟩ := rea_b (mm := 0) h z30 hd ht hj hq (by omega) hS
      have hk := p1.2.2.2.1 t a ht (by omega)
      generalize reaC C d t = P at p1 p2 p3 p4 p5 hk ⊢
      generalize mtak M 0 d t a = T at p1 p2 p3 hk ⊢
      have hb2 : Rb n (rfS P.2 t a P.1) (mrfF T (100 * t + a)) := by
        unfold rfS mrfF
        by_cases z1 : P.1 = 0
        · rw [if_neg (fun q => q z1), if_pos (p2.symm.trans z1), hk.1]
          by_cases z2 : kAt P.2 6 t a = 2
          · rw [if_pos z2, if_pos z2]; exact Rb_fold p1 (by rw [p1.1.2.1, hk.2.1])
          · rw [if_neg z2, if_neg z2, smF_id rfl]; exact p1
        · have zt : ¬ mF T 30 = 0 := by rw [← p2]; exact z1
          rw [if_pos z1, if_neg zt, smF_id rfl]; exact p1
      obtain ⟨r1, r2, r3, r4⟩ := ih (a + 1) P.1 (rfS P.2 t a P.1) (mrfF T (100 * t + a)) hb2 p2 (SL_of p3 (by rw [rfS_N]) (by rw [rfS_N]) (fun _ _ => rfl)) (fun q => by rw [rfS_j, rfS_N]; exact p5 (Or.inl q)) (by omega)
      exact ⟨r1, r2, r3, (p4.tr Ex_rfS).tr r4⟩
    · have z30 : mF M 30 ≠ 0 := by rw [← hw]; exact z
      rw [if_pos z, if_pos z30]
      exact ⟨h, hw, hS, Ex.rf⟩
theorem rfL_pos {d t : Nat} : ∀ (k a : Nat) (w : Int32) (C : CS), cN (rfL d t k a w C).2 3 d 8 ≤ cN C 3 d 8 + k := by
  intro k
  induction k with
  | zero => intro a w C; exact Nat.le_refl _
  | succ k ih =>
    intro a w C; unfold rfL; split
    · show cN C 3 d 8 ≤ _; omega
    · have h1 := ih (a + 1) (reaC C d t).1 (rfS (reaC C d t).2 t a (reaC C d t).1)
      rw [rfS_N, reaC_2] at h1
      have h2 := pasC_pos C d
      rw [reaC_2]
      omega
theorem rj1_b {n d t h : Nat} {C : CS} {M : MS} (hR : R0 n C M) (h30 : mF M 30 = 0) (hn : n ≤ 12) (hd : d < 3) (ht : t < n) (hr : rdyP C d) (hfit : h + zN C t h + 2 ≤ 100) {Y X : MS} (hY : Y = moD M 0 t (cN C 9 t 0) d) (hX : X = mrfL d t (zN C t h + 2) h (mwin (mrf0 Y) 0 0 h)) :
    Rb n (rj1 C d t h).2 X ∧ Sl (rj1 C d t h).2 X 0 d ∧ Iv (rj1 C d t h).2 ∧ Hh n (rj1 C d t h).2 ∧ Ex C (rj1 C d t h).2 ∧ cN (rj1 C d t h).2 3 d 8 < 2 ^ 31 ∧ (rj1 C d t h).1 = (if mF X 30 = 0 then nI (zN C t h) else mF X 30) ∧ (0 ≤ (rj1 C d t h).1 ↔ mF X 30 = 0) ∧ (∀ d', cM (rj1 C d t h).2 d' = if d' = d then some t else cM C d') := by
  obtain ⟨hI, hM, hb, h10, hc, hH, hs⟩ := hR
  obtain ⟨a1, a2, a3, a4, a5⟩ := car_b (mm := 0) hb h30 hd ht
  rw [← hY] at a1 a2 a3 a4
  have hXI : Iv (carC C d t).2 := carC_I hI
  have hXH : Hh n (carC C d t).2 := Hh_Sm (Hh_of hH (fun _ _ _ => rfl) : Hh n (sM C d (some t))) Sm_carC
  have hX8 : cN (carC C d t).2 3 d 8 = 0 := carC_pos
  have hXj : cF (carC C d t).2 3 d 4 = 0 := by rw [carC_j]; exact hr.1
  have hXk : zN (carC C d t).2 t h = zN C t h := by unfold zN; rw [Sm_carC.k]; rfl
  have hcr := carC_r C d t
  have hcM : ∀ d', cM (carC C d t).2 d' = if d' = d then some t else cM C d' := fun d' => carC_M d'
  unfold rj1
  generalize carC C d t = Q at a1 a2 a3 a4 a5 hXI hXH hX8 hXj hXk hcr hcM ⊢
  by_cases z : Q.1 = 0
  · rw [if_neg (fun q => q z)]
    have zY : mF Y 30 = 0 := a2.symm.trans z
    have e0 : mrf0 Y = smF Y 24 1 := by unfold mrf0; rw [if_pos zY]
    have hf : Rb n (sF Q.2 0 0 7 1) (smF Y 24 1) := Rb_fold a1 rfl
    obtain ⟨b1, b2, b3, b4⟩ := wind_b (d := d) (mm := 0) h 0 (sF Q.2 0 0 7 1) (smF Y 24 1) hf zY (by rw [cN_sF]; exact hX8) (SL_of (a4 z) rfl rfl (fun _ _ => rfl))
    have eW : windC (sF Q.2 0 0 7 1) d h = windL d h (sF Q.2 0 0 7 1) := by unfold windC; rw [cN_sF, hX8, Nat.sub_zero]
    have eWm : mwin (mrf0 Y) 0 0 h = mwL 0 h 0 (smF Y 24 1) := by rw [e0]; unfold mwin; rw [if_neg (show ¬ (mF (smF Y 24 1) 30 ≠ 0) from fun q => q zY), Nat.sub_zero]
    have hp := windL_pos (d := d) h (sF Q.2 0 0 7 1)
    have hSm : Sm (sF Q.2 0 0 7 1) (windL d h (sF Q.2 0 0 7 1)).2 := Sm_wind _ _
    have hwF : cF (windL d h (sF Q.2 0 0 7 1)).2 3 d 4 = 0 := by rw [windL_F (by decide)]; exact hXj
    have hwr := windL_r (d := d) h (sF Q.2 0 0 7 1)
    rw [eWm] at hX
    rw [cN_sF, hX8] at hp
    unfold rfC rf1
    rw [hXk, eW]
    generalize windL d h (sF Q.2 0 0 7 1) = V at b1 b2 b3 b4 hp hSm hwF hwr ⊢
    generalize mwL 0 h 0 (smF Y 24 1) = N at b1 b2 b3 hX ⊢
    obtain ⟨c1, c2, c3, c4⟩ := rf_b hd ht (zN C t h + 2) h V.1 V.2 N b1 b2 b3 (fun w0 => ⟨hwF, by have := hp.2 w0; omega⟩) (by omega)
    have hSmU : Sm V.2 (rfL d t (zN C t h + 2) h V.1 V.2).2 := Sm_rfL _ _ _ _
    have hwp := rfL_pos (d := d) (t := t) (zN C t h + 2) h V.1 V.2
    have hfr : failR (rfL d t (zN C t h + 2) h V.1 V.2).1 := rfL_r _ _ _ _ (hwr.elim (fun q => failR_of (Or.inl q)) (fun q => failR_of (Or.inr (Or.inl q))))
    rw [← hX] at c1 c2 c3
    generalize rfL d t (zN C t h + 2) h V.1 V.2 = U at c1 c2 c3 c4 hSmU hwp hfr ⊢
    have s1 : Sm Q.2 U.2 := (Sm_F.tr hSm).tr hSmU
    refine ⟨c1, c3.sl, s1.I hXI, Hh_Sm hXH s1, a5.tr ((Ex_F (Or.inr (by decide))).tr (b4.tr c4)), by show cN U.2 3 d 8 < 2 ^ 31; omega, ?_, ?_, fun d' => by show cM U.2 d' = _; rw [s1.2.2]; exact hcM d'⟩
    · show (if U.1 ≠ 0 then U.1 else nI (zN C t h)) = _
      rw [← c2]
      by_cases u : U.1 = 0
      · rw [if_neg (fun q => q u), if_pos u]
      · rw [if_pos u, if_neg u]
    · show 0 ≤ (if U.1 ≠ 0 then U.1 else nI (zN C t h)) ↔ _
      rw [← c2]
      by_cases u : U.1 = 0
      · rw [if_neg (fun q => q u)]; exact ⟨fun _ => u, fun _ => nI_pos' (by omega)⟩
      · rw [if_pos u]; exact ⟨fun q => absurd (failR_neg hfr u) (Int32.not_lt.mpr q), fun q => absurd q u⟩
  · rw [if_pos z]
    have zY : mF Y 30 ≠ 0 := by rw [← a2]; exact z
    have e0 : mrf0 Y = Y := by unfold mrf0; rw [if_neg zY]; exact smF_id rfl
    have e1 : mwin Y 0 0 h = Y := if_pos zY
    have eX : X = Y := by
      rw [hX, e0, e1]
      show mrfL d t (zN C t h + 1 + 1) h Y = Y
      unfold mrfL; rw [if_pos zY]
    rw [eX]
    have neg : Q.1 < 0 := by
      rcases hcr with q | q
      · exact absurd q z
      · rw [q]; decide
    exact ⟨a1, a3, hXI, hXH, a5, by rw [hX8]; decide, by rw [if_neg zY]; exact a2, ⟨fun q => absurd neg (Int32.not_lt.mpr q), fun q => absurd q zY⟩, hcM⟩
theorem Kn_of {n t nm h : Nat} {C : CS} {M : MS} (hR : R0 n C M) (ht : t < n) (hnm : nm < 1000) (hl : lh C t (nI nm) = some h) : mA M 9 (1000 * t + nm) = nI (h + 1) ∧ mA M 7 (100 * t + h) = nI (zN C t h) ∧ h + zN C t h + 2 ≤ 100 ∧ mA M 1 t = nI (cN C 9 t 0) ∧ cN C 9 t 0 < 32 := by
  have hc := hR.2.2.2.2.1 t ht
  have hE : cN C 5 t 3 ≤ 100 := by have := hR.1.1 t; have := cap_le t; omega
  have hf := (hc.1 h (lh_some hl).1).2
  exact ⟨cat_some hc hnm hl, ((hR.2.2.1.2.2.2.1 t h ht (by omega)).2.2.1).trans (kAt_sz hR.1 t h).1, by omega, (hR.2.2.1.2.2.1 t ht).1, hR.1.2.2 t⟩
theorem Kv_of {n nm : Nat} {C : CS} {M : MS} (hR : R0 n C M) (hnm : nm < 1000) : Kv M n nm := fun t ht => by
  cases hl : lh C t (nI nm) with
  | none => exact Or.inl (cat_none (hR.2.2.2.2.1 t ht) hnm hl)
  | some h => exact Or.inr ⟨_, _, _, Kn_of hR ht hnm hl⟩
/-- a reading of a file is the same job on both sides -/
theorem rf_job {n t nm h : Nat} {C : CS} {M : MS} (hR : RR n C M) (hn : n ≤ 12) (ht : t < n) (hnm : nm < 1000) (hl : lh C t (nI nm) = some h) : RR n (couC (rjC C t h).2 (rjC C t h).1) (mrfS M t nm) ∧ (rjC C t h).1 = mrfR M t nm := by
  obtain ⟨hB, hB30, hB27, hB28⟩ := RR_beg hR
  obtain ⟨k9, k7, kf, k1, kh⟩ := Kn_of hR.1 ht hnm hl
  have e1 : mPP M t nm = h := by unfold mPP; rw [mN_of k9 (by omega)]; omega
  have e2 : mPZ M t nm = zN C t h := by unfold mPZ; rw [e1, mN_of k7 (by omega)]
  have e3 : mN M 1 t = cN C 9 t 0 := mN_of k1 (by omega)
  have hmd : mdC M (cN C 9 t 0) = ndC C t := nd_eq hR.1.2.2.1 (Rm_0 hR.1)
  unfold mrfS mrfR mrfT rjC
  rw [e1, e2, e3, hmd]
  cases hN : ndC C t with
  | none =>
    have en : mrfN M = moN (mbeg M) 0 := by
      unfold mrfN mrf0
      rw [if_neg (show ¬ (mF (moN (mbeg M) 0) 30 = 0) from (show ¬ ((-3 : Int32) = 0) by decide))]; exact smF_id rfl
    have h30 : mF (moN (mbeg M) 0) 30 = -3 := rfl
    show RR n (couC C (-3)) (menE (mrfN M)) ∧ (-3 : Int32) = menR (mrfN M) _
    rw [en, menR_ne h30 (by decide)]
    exact ⟨RR_end (w := -3) (R0_moN hB) hB27 hB28 ⟨fun q => absurd q (by decide), fun q => absurd (h30.symm.trans q) (by decide)⟩, rfl⟩
  | some d =>
    obtain ⟨hd, hr⟩ := nd_some hN
    obtain ⟨Y, hY⟩ : ∃ Y, Y = moD (mbeg M) 0 t (cN C 9 t 0) d := ⟨_, rfl⟩
    obtain ⟨X, hX⟩ : ∃ X, X = mrfL d t (zN C t h + 2) h (mwin (mrf0 Y) 0 0 h) := ⟨_, rfl⟩
    obtain ⟨p1, p2, p3, p4, p5, p6, p7, p8, p9⟩ := rj1_b hB hB30 hn hd ht hr kf hY hX
    have eD : mrfD M t h (zN C t h) (cN C 9 t 0) d = munM X 0 d t := by unfold mrfD; rw [hX, hY]
    have z10 : ∀ d', mA X 10 d' = if d' = d then 1 else mA (mbeg M) 10 d' := fun d' => by
      rw [hX, mrfL_A (by decide), mwin_A (by decide)]; unfold mrf0; rw [mA_smF, hY, moD_10]
    have z9 : ∀ i, mA (munM X 0 d t) 9 i = mA (mbeg M) 9 i := fun i => by
      rw [munM_A (by decide), hX, mrfL_A (by decide), mwin_A (by decide)]; unfold mrf0; rw [mA_smF, hY, moD_A (by decide) (Or.inl (by decide))]
    have zF : ∀ k, (k ≠ 25 ∧ k ≠ 29 ∧ k ≠ 30) → k ≠ 24 → mF X k = mF (mbeg M) k := fun k h1 h2 => by
      rw [hX, mrfL_F h1 h2, mwin_F h1]; unfold mrf0; rw [mF_smF, if_neg h2, hY, moD_F h1]
    have hend0 := mount_end hB hd ht p1 p2 p3 p4 p5 p6 p9 z10 (fun k h1 h2 => zF k (by omega) (by omega))
    rw [set9_id z9] at hend0
    have u30 : mF (munM X 0 d t) 30 = mF X 30 := munM_F (by decide)
    have uF : mF (munM X 0 d t) 27 = cF C 0 0 5 + 1 ∧ mF (munM X 0 d t) 28 = cF C 0 0 6 := ⟨by rw [munM_F (by decide), zF 27 (by decide) (by decide)]; exact hB27, by rw [munM_F (by decide), zF 28 (by decide) (by decide)]; exact hB28⟩
    have jb := (p5.tr (briC_x (d := d) (t := t))).2.2.2.2.2
    show RR n (couC (briC (rj1 C d t h).2 d t) (rj1 C d t h).1) (menE (mrfD M t h (zN C t h) (cN C 9 t 0) d)) ∧ (rj1 C d t h).1 = menR (mrfD M t h (zN C t h) (cN C 9 t 0) d) (nI (zN C t h))
    rw [eD]
    refine ⟨RR_end hend0 (by rw [jb.1]; exact uF.1) (by rw [jb.2]; exact uF.2) (by rw [u30]; exact p8), ?_⟩
    rw [p7]; unfold menR; rw [u30]
theorem name_arg {x : Int32} (h : nameP x) : ∃ nm, nm < 1000 ∧ x = nI nm := by
  rcases pk_ix x (n := 1000) (by decide) with q | q | ⟨j, hj, rfl⟩
  · exact absurd q h.1
  · exact absurd q h.2
  · exact ⟨j, hj, rfl⟩
theorem t_read (l : Launch) (G : GG) (D : CS) {n : Nat} {C : CS} {M : MS} (hR : RR n C M) (hn : n ≤ 12) (x y : Int32) : ∃ M', Ct l G yX5_read cX5_read 3 (some .int) 4 91 [.ref (zad G 12 0), .int x, .int y] D M (some (.int (reaT n C x y).1)) D M' ∧ RR n (reaT n C x y).2 M' := by
  have hM0 : mF M 0 = nI n := Rn hR.1
  by_cases hx : nameP x
  · unfold reaT
    rcases tape_cases hn y with hb | ⟨t, ht, rfl, hb, htx⟩
    · rw [if_pos hb]; exact ⟨M, m_rea_b l G D M hn hM0 hx hb, hR⟩
    · rw [if_neg hb, if_pos hx, htx]
      obtain ⟨nm, hnm, rfl⟩ := name_arg hx
      cases hl : lh C t (nI nm) with
      | none => exact ⟨M, m_rea_0 l G D M hn hM0 ht hnm hx (cat_none (hR.1.2.2.2.2.1 t ht) hnm hl), hR⟩
      | some h =>
        have k := Kn_of hR.1 ht hnm hl
        obtain ⟨r1, r2⟩ := rf_job hR hn ht hnm hl
        refine ⟨mrfS M t nm, ?_, r1⟩
        have := m_rea_1 l G D M hn hM0 ht hnm hx (by rw [k.1]; exact nI_ne0 (by omega) (by omega)) ⟨_, _, _, k⟩
        rw [← r2] at this
        exact this
  · have e : reaT n C x y = (-1, C) := by
      unfold reaT
      by_cases q : badT n y
      · rw [if_pos q]
      · rw [if_neg q, if_neg hx]
    rw [e]
    exact ⟨M, m_rea_n l G D M hx y, hR⟩
theorem msvL_4 {nm : Nat} : ∀ (k j : Nat) (M : MS), msvL nm k j (-4) M = (-4, M) := by
  intro k j M
  cases k with
  | zero => rfl
  | succ k => unfold msvL; rw [if_pos rfl]
theorem sv_b {n nm : Nat} (hn : n ≤ 12) (hnm : nm < 1000) : ∀ (k j : Nat) (w : Int32) (C : CS) (M : MS), j + k = n → RR n C M → w ≠ -4 → RR n (svL (nI nm) k j w C).2 (msvL nm k j w M).2 ∧ (svL (nI nm) k j w C).1 = (msvL nm k j w M).1 := by
  intro k
  induction k with
  | zero => intro j w C M _ hR _; exact ⟨hR, rfl⟩
  | succ k ih =>
    intro j w C M hk hR hw
    have ht : j < n := by omega
    unfold svL msvL
    rw [if_neg hw]
    cases hl : lh C j (nI nm) with
    | none =>
      rw [if_pos (show mA M 9 (1000 * j + nm) ≤ 0 by rw [cat_none (hR.1.2.2.2.2.1 j ht) hnm hl]; decide)]
      exact ih (j + 1) w C M (by omega) hR hw
    | some h =>
      have kn := Kn_of hR.1 ht hnm hl
      rw [if_neg (show ¬ mA M 9 (1000 * j + nm) ≤ 0 by rw [kn.1]; exact nI_nle (by omega) (by omega))]
      obtain ⟨r1, r2⟩ := rf_job hR hn ht hnm hl
      show RR n (if (rjC C j h).1 < 0 then (if (rjC C j h).1 = -4 then (-4, svS C j h) else svL (nI nm) k (j + 1) (rjC C j h).1 (svS C j h)) else (nI j, svS C j h)).2 _ ∧ (if (rjC C j h).1 < 0 then (if (rjC C j h).1 = -4 then (-4, svS C j h) else svL (nI nm) k (j + 1) (rjC C j h).1 (svS C j h)) else (nI j, svS C j h)).1 = _
      rw [← r2]
      by_cases z : (rjC C j h).1 < 0
      · rw [if_pos z, if_pos z]
        by_cases z4 : (rjC C j h).1 = -4
        · rw [if_pos z4, z4, msvL_4]; exact ⟨r1, rfl⟩
        · rw [if_neg z4]
          exact ih (j + 1) _ _ _ (by omega) r1 z4
      · rw [if_neg z, if_neg z]; exact ⟨r1, rfl⟩
theorem t_salvage (l : Launch) (G : GG) (D : CS) {n : Nat} {C : CS} {M : MS} (hR : RR n C M) (hn : n ≤ 12) (x : Int32) : ∃ M', Ct l G yX5_salvage cX5_salvage 4 (some .int) 4 91 [.ref (zad G 12 0), .int x] D M (some (.int (salT n C x).1)) D M' ∧ RR n (salT n C x).2 M' := by
  have hM0 : mF M 0 = nI n := Rn hR.1
  unfold salT
  by_cases hx : nameP x
  · rw [if_pos hx]
    obtain ⟨nm, hnm, rfl⟩ := name_arg hx
    obtain ⟨r1, r2⟩ := sv_b hn hnm n 0 (-2) C M (by omega) hR (by decide)
    refine ⟨_, ?_, r1⟩
    rw [r2]
    exact m_sal_1 l G D M hn hM0 hnm hx (Kv_of hR.1 hnm)
  · rw [if_neg hx]; exact ⟨M, m_sal_n l G D M hx, hR⟩
