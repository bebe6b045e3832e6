/-! ===== the two sides: scan ===== -/
theorem smA_comm {M : MS} {j i j' i' : Nat} {v v' : Int32} (h : j ≠ j') : smA (smA M j i v) j' i' v' = smA (smA M j' i' v') j i v := MS_ext (fun _ => rfl) (fun a b => by
  rw [mA_smA, mA_smA, mA_smA, mA_smA]
  by_cases e1 : a = j ∧ b = i
  · have e2 : ¬ (a = j' ∧ b = i') := fun q => h (e1.1.symm.trans q.1)
    rw [if_neg e2, if_pos e1, if_pos e1]
  · by_cases e2 : a = j' ∧ b = i'
    · rw [if_pos e2, if_neg e1, if_pos e2]
    · rw [if_neg e2, if_neg e1, if_neg e1, if_neg e2])
theorem munM_9 {M : MS} {mm d t a : Nat} {v : Int32} : munM (smA M 9 a v) mm d t = smA (munM M mm d t) 9 a v := by
  have e1 : mN (smA M 9 a v) 19 mm = mN M 19 mm := by unfold mN; rw [mA_nj (by decide)]
  unfold munM
  rw [e1]
  unfold munm mun2
  have e2 : mA (smA M 9 a v) 18 mm = mA M 18 mm := mA_nj (by decide)
  rw [e2]
  have e17 : mA (smA M 9 a v) 17 mm = mA M 17 mm := mA_nj (by decide)
  rw [e17]
  by_cases z : mA M 18 mm = 0
  · rw [if_pos z, if_pos z]
    rw [smA_comm (show (10 : Nat) ≠ 9 by decide)]
    rfl
  · rw [if_neg z, if_neg z]
    unfold mun1
    have e11 : mA (smA M 9 a v) 11 d = mA M 11 d := mA_nj (by decide)
    have e4 : mA (smA M 9 a v) 4 t = mA M 4 t := mA_nj (by decide)
    rw [e11, e4, smA_comm (show (10 : Nat) ≠ 9 by decide)]
    have e5 : ∀ (N : MS) (x y : Int32), smA (smF (smA N 9 a v) 26 x) 4 t y = smA (smA (smF N 26 x) 4 t y) 9 a v := fun N x y => by
      show smA (smA (smF N 26 x) 9 a v) 4 t y = _
      rw [smA_comm (by decide)]
    rw [e5]
    rfl
theorem fgL_un {d t2 t : Nat} : ∀ (k j n : Nat) (M : MS), fgL t k j n (munM M 0 d t2) = ((fgL t k j n M).1, munM (fgL t k j n M).2 0 d t2) := by
  intro k
  induction k with
  | zero => intro j n M; rfl
  | succ k ih =>
    intro j n M
    unfold fgL
    rw [munM_A (by decide), ← munM_9, ih]
theorem isFp_un {d t2 t i e0 z : Nat} {M : MS} : isFp (munM M 0 d t2) t i e0 z ↔ isFp M t i e0 z := by
  have e : ∀ k i', ifL (munM M 0 d t2) (100 * t + i) z k i' = ifL M (100 * t + i) z k i' := by
    intro k
    induction k with
    | zero => intro _; rfl
    | succ k ih => intro i'; unfold ifL; rw [munM_A (by decide), munM_A (by decide), ih]
  unfold isFp if0
  rw [munM_A (by decide), munM_A (by decide), e]
theorem mliL_un {d t2 t e0 : Nat} : ∀ (k i n : Nat) (M : MS), mliL t e0 k i n (munM M 0 d t2) = ((mliL t e0 k i n M).1, munM (mliL t e0 k i n M).2 0 d t2) := by
  intro k
  induction k with
  | zero => intro i n M; rfl
  | succ k ih =>
    intro i n M
    have e6 : mN (munM M 0 d t2) 6 (100 * t + i) = mN M 6 (100 * t + i) := by unfold mN; rw [munM_A (by decide)]
    have e7 : mN (munM M 0 d t2) 7 (100 * t + i) = mN M 7 (100 * t + i) := by unfold mN; rw [munM_A (by decide)]
    have e9 : mA (munM M 0 d t2) 9 (1000 * t + mN M 6 (100 * t + i)) = mA M 9 (1000 * t + mN M 6 (100 * t + i)) := munM_A (by decide)
    unfold mliL
    rw [e6, e7, ← munM_9]
    by_cases q : isFp M t i e0 (mN M 7 (100 * t + i))
    · rw [if_pos q, if_pos (isFp_un.mpr q), ih, e9]
    · rw [if_neg q, if_neg (fun w => q (isFp_un.mp w)), ih]
theorem R0_scan {n t : Nat} {C : CS} {M : MS} (h0 : R0 n C M) (ht : t < n) : R0 n (latC C t) (mliL t (cN C 5 t 3) (cN C 5 t 3) 0 0 (fgL t 1000 0 0 M).2).2 ∧ (mliL t (cN C 5 t 3) (cN C 5 t 3) 0 0 (fgL t 1000 0 0 M).2).1 = lcL (latC C t) t 100 0 0 := by
  obtain ⟨b0, _⟩ := R0_lose h0 ht
  have hE : cN C 5 t 3 ≤ 100 := by have := h0.1.1 t; have := cap_le t; omega
  have eN := uaL_N (t := t) 100 0 0 C
  unfold latC
  have hk0 : cntK (fgL t 1000 0 0 M).2 t = 0 := ct_0 (fun i hi => decide_eq_false (fun q => q (by rw [fgL_9, if_pos (by omega)])))
  generalize (uaL t 100 0 0 C).2 = U at b0 eN ⊢
  generalize (fgL t 1000 0 0 M).2 = F at b0 hk0 ⊢
  have eU : cN U 5 t 3 = cN C 5 t 3 := by rw [eN]
  rw [← eU] at hE ⊢
  obtain ⟨a1, a2, ⟨b1, b2, b3, b4, b5⟩, a4, a5, a6, a7, a8⟩ := b0
  obtain ⟨c1, c2, c3⟩ := lat_b hE (cN U 5 t 3) 0 0 U F (by omega) rfl a1 (fun a ha => b4 t a ht ha) (fun a q => a6 t (Or.inl ht) a q) (a5 t ht) hk0.symm
  have lF := latL_F (t := t) (cN U 5 t 3) 0 U
  have lN := latL_N (t := t) (cN U 5 t 3) 0 U
  have lB : ∀ f b a, f ≠ 11 ∨ b ≠ t → cB (latL t (cN U 5 t 3) 0 U) f b a = cB U f b a := fun f b a h => latL_B h _ _ _
  have mA' : ∀ j i, j ≠ 9 → mA (mliL t (cN U 5 t 3) (cN U 5 t 3) 0 0 F).2 j i = mA F j i := fun j i h => mliL_A h _ _ _ _
  have mF' : mF (mliL t (cN U 5 t 3) (cN U 5 t 3) 0 0 F).2 = mF F := mliL_F _ _ _ _
  have lI := latL_I (t := t) (cN U 5 t 3) 0 U a1
  refine ⟨⟨lI, fun d => by rw [lF.2]; exact a2 d, ⟨?_, fun d q => Rd_of (b2 d q) (fun k => by rw [lF.1]) (fun j i _ _ => mA' j i (by omega)), fun t q => Rt_of (b3 t q) (by rw [lN]) (by rw [lN]) (fun k => by rw [lF.1]) (fun j i _ _ => mA' j i (by omega)), fun t a q q2 => Rk_of (b4 t a q q2) (by rw [lN]) (fun f _ => lB f _ _ (Or.inl (by omega))) (fun j i _ _ => mA' j i (by omega)), Bk_all b5 (fun j i _ _ => mA' j i (by omega))⟩, fun d hd => by rw [mA' _ _ (by decide)]; exact a4 d hd, fun t' ht' => ?_, Hh_of2 a6 (fun f b a hf => kAt_B11 (by rw [lN]) (lB f b a (Or.inl (by omega)))), Rs_of a7 (by rw [lN]) (fun f a hf _ => lB f _ _ (Or.inl (by omega))) (fun _ _ _ => by rw [mF']), fun t' nm h1 h2 h3 => by rw [c3 t' nm (by omega) h3]; exact a8 t' nm h1 h2 h3⟩, ?_⟩
  · unfold Rg; rw [mF', lF.1]; exact b1
  · by_cases e : t' = t
    · rw [e]; exact c1
    · exact Rcat_other (a5 t' ht') (by rw [lN]) (fun f a => lB f _ _ (Or.inr e)) (fun nm hn => c3 t' nm e hn)
  · rw [c2, lcL_cnt]; exact c1.2.2.2.symm
theorem lt_b {n d t : Nat} (hd : d < 3) (ht : t < n) : ∀ (k q : Nat) (w : Int32) (C : CS) (M : MS), Rb n C M → mF M 30 = (if w = -7 then 0 else w) → SL C M 0 d → (w = 0 ∨ w = -7 → cF C 3 d 4 = 0 ∧ cN C 3 d 8 = q) → q + k ≤ 100 →
    Rb n (ltL d t k w C).2 (mscL d t k q M) ∧ mF (mscL d t k q M) 30 = (if (ltL d t k w C).1 = -7 then 0 else (ltL d t k w C).1) ∧ SL (ltL d t k w C).2 (mscL d t k q M) 0 d ∧ Ex C (ltL d t k w C).2 := by
  intro k
  induction k with
  | zero => intro q w C M h hw hS _ _; exact ⟨h, hw, hS, Ex.rf⟩
  | succ k ih =>
    intro q w C M h hw hS h0 hb
    unfold ltL mscL
    by_cases z : w = 0 ∨ w = -7
    · obtain ⟨hj, hq⟩ := h0 z
      have z30 : mF M 30 = 0 := by
        rw [hw]
        rcases z with z | z
        · rw [z]; rfl
        · rw [if_pos z]
      rw [if_pos z, if_neg (fun q => q z30)]
      obtain ⟨p1, p2, p3, p4, p5⟩ := rea_b (mm := 0) h z30 hd ht hj hq (by omega) hS
      unfold mscS
      generalize reaC C d t = P at p1 p2 p3 p4 p5 ⊢
      generalize mtak M 0 d t q = T at p1 p2 p3 ⊢
      rw [← p2]
      obtain ⟨r1, r2, r3, r4⟩ := ih (q + 1) P.1 P.2 (smF T 30 (if P.1 = -7 then 0 else P.1)) (Rb_F (by decide) p1) rfl (SL_of p3 rfl rfl (fun _ _ => rfl)) p5 (by omega)
      exact ⟨r1, r2, r3, p4.tr r4⟩
    · have z30 : mF M 30 ≠ 0 := by
        rw [hw, if_neg (fun q => z (Or.inr q))]; exact fun q => z (Or.inl q)
      rw [if_neg z, if_pos z30]
      exact ⟨h, hw, hS, Ex.rf⟩
theorem ltL_pos {d t : Nat} : ∀ (k : Nat) (w : Int32) (C : CS), cN (ltL d t k w C).2 3 d 8 ≤ cN C 3 d 8 + k := by
  intro k
  induction k with
  | zero => intro w C; exact Nat.le_refl _
  | succ k ih =>
    intro w C; unfold ltL; split
    · have h1 := ih (reaC C d t).1 (reaC C d t).2
      rw [reaC_2] at h1
      have h2 := pasC_pos C d
      rw [reaC_2]
      omega
    · show cN C 3 d 8 ≤ _; omega
theorem sj1_b {n d t : Nat} {C : CS} {M : MS} (hR : R0 n C M) (h30 : mF M 30 = 0) (hn : n ≤ 12) (hd : d < 3) (ht : t < n) (hr : rdyP C d) {Y X : MS} (hY : Y = moD M 0 t (cN C 9 t 0) d) (hX : X = mscL d t (cN C 5 t 3) 0 Y) :
    Rb n (sj1 C d t).2 X ∧ Sl (sj1 C d t).2 X 0 d ∧ Iv (sj1 C d t).2 ∧ Hh n (sj1 C d t).2 ∧ Ex C (sj1 C d t).2 ∧ cN (sj1 C d t).2 3 d 8 < 2 ^ 31 ∧ (sj1 C d t).1 = mF X 30 ∧ (mF X 30 ≠ 0 → mF X 30 < 0) ∧ (∀ d', cM (sj1 C d t).2 d' = if d' = d then some t else cM C d') := by
  obtain ⟨hI, hM, hb, h10, hc, hH, hs⟩ := hR
  have he1 : cN C 5 t 3 ≤ 100 := by have := hI.1 t; have := cap_le t; omega
  obtain ⟨a1, a2, a3, a4, a5⟩ := car_b (mm := 0) hb h30 hd ht
  rw [← hY] at a1 a2 a3 a4
  have hXI : Iv (carC C d t).2 := carC_I hI
  have hXH : Hh n (carC C d t).2 := Hh_Sm (Hh_of hH (fun _ _ _ => rfl) : Hh n (sM C d (some t))) Sm_carC
  have hX8 : cN (carC C d t).2 3 d 8 = 0 := carC_pos
  have hX5 : cN (carC C d t).2 5 t 3 = cN C 5 t 3 := carC_N (by decide)
  have hXj : cF (carC C d t).2 3 d 4 = 0 := by rw [carC_j]; exact hr.1
  have hcr := carC_r C d t
  have hcM : ∀ d', cM (carC C d t).2 d' = if d' = d then some t else cM C d' := fun d' => carC_M d'
  unfold sj1
  generalize carC C d t = Q at a1 a2 a3 a4 a5 hXI hXH hX8 hX5 hXj hcr hcM ⊢
  by_cases z : Q.1 = 0
  · rw [if_neg (fun q => q z)]
    have zY : mF Y 30 = 0 := a2.symm.trans z
    unfold lookC
    rw [hX5]
    obtain ⟨c1, c2, c3, c4⟩ := lt_b hd ht (cN C 5 t 3) 0 0 Q.2 Y a1 zY (a4 z) (fun _ => ⟨hXj, hX8⟩) (by omega)
    have hSmU : Sm Q.2 (ltL d t (cN C 5 t 3) 0 Q.2).2 := Sm_lt _ _ _
    have hwp := ltL_pos (d := d) (t := t) (cN C 5 t 3) 0 Q.2
    have hfr : failR (ltL d t (cN C 5 t 3) 0 Q.2).1 := ltL_r _ _ _ (Or.inl rfl)
    rw [← hX] at c1 c2 c3
    generalize ltL d t (cN C 5 t 3) 0 Q.2 = U at c1 c2 c3 c4 hSmU hwp hfr ⊢
    refine ⟨c1, c3.sl, hSmU.I hXI, Hh_Sm hXH hSmU, a5.tr c4, by show cN U.2 3 d 8 < 2 ^ 31; omega, c2.symm, fun q => ?_, fun d' => by show cM U.2 d' = _; rw [hSmU.2.2]; exact hcM d'⟩
    rw [c2] at q ⊢
    by_cases u : U.1 = -7
    · rw [if_pos u] at q; exact absurd rfl q
    · rw [if_neg u] at q ⊢; exact failR_neg hfr q
  · rw [if_pos z]
    have zY : mF Y 30 ≠ 0 := by rw [← a2]; exact z
    have eX : X = Y := by
      rw [hX]
      cases cN C 5 t 3 with
      | zero => rfl
      | succ k => unfold mscL; rw [if_pos zY]
    rw [eX]
    have neg : Q.1 < 0 := by
      rcases hcr with q | q
      · exact absurd q z
      · rw [q]; decide
    exact ⟨a1, a3, hXI, hXH, a5, by rw [hX8]; decide, a2, fun _ => by rw [← a2]; exact neg, hcM⟩
theorem mscL_F {d t f : Nat} (h : f ≠ 25 ∧ f ≠ 29 ∧ f ≠ 30) : ∀ (k q : Nat) (M : MS), mF (mscL d t k q M) f = mF M f := by
  intro k
  induction k with
  | zero => intro q M; rfl
  | succ k ih =>
    intro q M; unfold mscL; split
    · rfl
    · rw [ih]; unfold mscS; rw [mF_smF, if_neg h.2.2, mtak_F h]
theorem Fm_of {n t : Nat} {C : CS} {M : MS} (hR : R0 n C M) (ht : t < n) : Fm M t (cN C 5 t 3) := by
  refine ⟨(hR.2.2.1.2.2.1 t ht).2.1, fun a ha => ?_, fun a ha q => ?_⟩
  · obtain ⟨_, _, r3, _⟩ := hR.2.2.1.2.2.2.1 t a ht ha
    have hz := kAt_sz hR.1 t a
    have e : mA M 7 (100 * t + a) = nI (zN C t a) := r3.trans hz.1
    rw [mN_of e (by omega)]
    exact ⟨e, hz.2⟩
  · obtain ⟨r1, r2, _, _⟩ := hR.2.2.1.2.2.2.1 t a ht ha
    obtain ⟨nm, n1, n2⟩ := hR.2.2.2.2.2.1 t (Or.inl ht) a (r1.symm.trans q)
    have e : mA M 6 (100 * t + a) = nI nm := r2.trans n2
    rw [mN_of e (by omega)]
    exact ⟨e, n1⟩
theorem lcL_le {C : CS} {t : Nat} : ∀ (k j n : Nat), lcL C t k j n ≤ n + k := by
  intro k
  induction k with
  | zero => intro j n; exact Nat.le_refl _
  | succ k ih =>
    intro j n; unfold lcL; split
    · have := ih (j + 1) n; omega
    · have := ih (j + 1) (n + 1); omega
theorem t_scan (l : Launch) (G : GG) (D : CS) {n : Nat} {C : CS} {M : MS} (hR : RR n C M) (hn : n ≤ 12) (x : Int32) : ∃ M', Ct l G yX5_scan cX5_scan 6 (some .int) 3 65 [.ref (zad G 12 0), .int x] D M (some (.int (scaT n C x).1)) D M' ∧ RR n (scaT n C x).2 M' := by
  obtain ⟨hB, hB30, hB27, hB28⟩ := RR_beg hR
  have hRb := hR.1.2.2.1
  have hM0 : mF M 0 = nI n := Rn hR.1
  unfold scaT
  rcases tape_cases hn x with hb | ⟨t, ht, rfl, hb, htx⟩
  · rw [if_pos hb]; exact ⟨M, m_sca_b l G D M hn hM0 hb, hR⟩
  · rw [if_neg hb, htx]
    have he1 : cN C 5 t 3 ≤ 100 := by have := hR.1.1.1 t; have := cap_le t; omega
    have hh32 := hR.1.1.2.2 t
    obtain ⟨r1, r2, _, _⟩ := hRb.2.2.1 t ht
    have hmd : mdC M (cN C 9 t 0) = ndC C t := nd_eq hRb (Rm_0 hR.1)
    cases hN : ndC C t with
    | none =>
      have e1 : sjC C t = (-3, C) := by unfold sjC; rw [hN]
      have h30 : mF (moN (mbeg M) 0) 30 = -3 := rfl
      have := m_sca_n l G D M hn hM0 ht r2 he1 r1 hh32 (hmd.trans hN)
      rw [menR_ne h30 (by decide)] at this
      rw [e1]
      exact ⟨_, this, RR_end (w := -3) (R0_moN hB) hB27 hB28 ⟨fun q => absurd q (by decide), fun q => absurd (h30.symm.trans q) (by decide)⟩⟩
    | some d =>
      obtain ⟨hd, hr⟩ := nd_some hN
      have hct := m_sca_s l G D M hn hM0 ht r2 he1 r1 hh32 (Fm_of hR.1 ht) (hmd.trans hN)
      have e1 : sjC C t = sjD C d t := by unfold sjC; rw [hN]
      rw [e1]
      obtain ⟨Y, hY⟩ : ∃ Y, Y = moD (mbeg M) 0 t (cN C 9 t 0) d := ⟨_, rfl⟩
      obtain ⟨X, hX⟩ : ∃ X, X = mscL d t (cN C 5 t 3) 0 Y := ⟨_, rfl⟩
      obtain ⟨p1, p2, p3, p4, p5, p6, p7, p8, p9⟩ := sj1_b hB hB30 hn hd ht hr hY hX
      have eX : mscX M t (cN C 5 t 3) (cN C 9 t 0) d = X := by unfold mscX; rw [hX, hY]
      have z10 : ∀ d', mA X 10 d' = if d' = d then 1 else mA (mbeg M) 10 d' := fun d' => by
        rw [hX, mscL_A (by decide), hY, moD_10]
      have z9 : ∀ i, mA (munM X 0 d t) 9 i = mA (mbeg M) 9 i := fun i => by
        rw [munM_A (by decide), hX, mscL_A (by decide), hY, moD_A (by decide) (Or.inl (by decide))]
      have zF : ∀ k, (k ≠ 25 ∧ k ≠ 29 ∧ k ≠ 30) → mF X k = mF (mbeg M) k := fun k h1 => by
        rw [hX, mscL_F h1, hY, moD_F h1]
      have hend0 := mount_end hB hd ht p1 p2 p3 p4 p5 p6 p9 z10 (fun k h1 h2 => zF k (by omega))
      rw [set9_id z9] at hend0
      have u30 : mF (munM X 0 d t) 30 = mF X 30 := munM_F (by decide)
      have uF : mF (munM X 0 d t) 27 = cF C 0 0 5 + 1 ∧ mF (munM X 0 d t) 28 = cF C 0 0 6 := ⟨by rw [munM_F (by decide), zF 27 (by decide)]; exact hB27, by rw [munM_F (by decide), zF 28 (by decide)]; exact hB28⟩
      have jb := (p5.tr (briC_x (d := d) (t := t))).2.2.2.2.2
      rw [eX] at hct
      unfold sjD
      by_cases zz : mF X 30 = 0
      · have w0 : ¬ (sj1 C d t).1 ≠ 0 := fun q => q (p7.trans zz)
        rw [if_neg w0]
        have e5 : cN (briC (sj1 C d t).2 d t) 5 t 3 = cN C 5 t 3 := by
          show cN (sj1 C d t).2 5 t 3 = _
          have := (p1.2.2.1 t ht).2.1
          have hx2 : mA X 2 t = nI (cN C 5 t 3) := by rw [hX, mscL_A (by decide), hY, moD_A (by decide) (Or.inl (by decide))]; exact r2
          have he := p3.1 t
          have := cap_le t
          exact (nI_eq (by omega) (by omega)).mp ((p1.2.2.1 t ht).2.1.symm.trans hx2)
        obtain ⟨s1, s2⟩ := R0_scan hend0 ht
        rw [e5, fgL_un, mliL_un] at s1 s2
        have eK : mscK X t (cN C 5 t 3) = mliL t (cN C 5 t 3) (cN C 5 t 3) 0 0 (fgL t 1000 0 0 X).2 := by unfold mscK; rw [if_pos zz]
        have eD : mscD M t (cN C 5 t 3) (cN C 9 t 0) d = munM (mliL t (cN C 5 t 3) (cN C 5 t 3) 0 0 (fgL t 1000 0 0 X).2).2 0 d t := by unfold mscD; rw [eX, eK]
        rw [eD, eK] at hct
        have f30 : ∀ f, f ≠ 26 → mF (munM (mliL t (cN C 5 t 3) (cN C 5 t 3) 0 0 (fgL t 1000 0 0 X).2).2 0 d t) f = mF X f := fun f hf => by rw [munM_F hf, mliL_F, fgL_F]
        rw [menR_0 ((f30 30 (by decide)).trans zz)] at hct
        have s1 : R0 n (latC (briC (sj1 C d t).2 d t) t) (munM (mliL t (cN C 5 t 3) (cN C 5 t 3) 0 0 (fgL t 1000 0 0 X).2).2 0 d t) := s1
        have s2 : (mliL t (cN C 5 t 3) (cN C 5 t 3) 0 0 (fgL t 1000 0 0 X).2).1 = lcL (latC (briC (sj1 C d t).2 d t) t) t 100 0 0 := s2
        rw [s2] at hct
        have eF : cF (latC (briC (sj1 C d t).2 d t) t) = cF (briC (sj1 C d t).2 d t) := by
          unfold latC; rw [(latL_F _ _ _).1, (uaL_F _ _ _ _).1]
        have hbd : lcL (latC (briC (sj1 C d t).2 d t) t) t 100 0 0 < 2 ^ 31 := by
          have := lcL_le (C := latC (briC (sj1 C d t).2 d t) t) (t := t) 100 0 0
          omega
        have g27 := (f30 27 (by decide)).trans ((zF 27 (by decide)).trans hB27)
        have g28 := (f30 28 (by decide)).trans ((zF 28 (by decide)).trans hB28)
        have g30 := (f30 30 (by decide)).trans zz
        clear f30 s2 eD eK
        rw [← jb.1, ← eF] at g27
        rw [← jb.2, ← eF] at g28
        generalize lcL (latC (briC (sj1 C d t).2 d t) t) t 100 0 0 = L at hct hbd ⊢
        generalize latC (briC (sj1 C d t).2 d t) t = Cz at s1 g27 g28 ⊢
        generalize munM (mliL t (cN C 5 t 3) (cN C 5 t 3) 0 0 (fgL t 1000 0 0 X).2).2 0 d t = Mz at hct s1 g27 g28 g30
        refine ⟨_, hct, ?_⟩
        show RR n (couC Cz (nI L)) _
        exact RR_end s1 g27 g28 ⟨fun _ => g30, fun _ => nI_pos' hbd⟩
      · have w0 : (sj1 C d t).1 ≠ 0 := by rw [p7]; exact zz
        rw [if_pos w0]
        have eK : mscK X t (cN C 5 t 3) = (0, X) := by unfold mscK; rw [if_neg zz]
        have eD : mscD M t (cN C 5 t 3) (cN C 9 t 0) d = munM X 0 d t := by unfold mscD; rw [eX, eK]
        rw [eD, eK, menR_ne u30 zz, ← p7] at hct
        refine ⟨_, hct, ?_⟩
        refine RR_end hend0 (by rw [jb.1]; exact uF.1) (by rw [jb.2]; exact uF.2) ?_
        rw [u30, p7]
        exact ⟨fun q => absurd (p8 zz) (Int32.not_lt.mpr q), fun q => absurd q zz⟩
