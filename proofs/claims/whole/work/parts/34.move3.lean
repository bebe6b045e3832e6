/-! ===== the two sides: move, its mounts ===== -/
theorem endC_N3 {C : CS} {d t h d' k : Nat} {w : Int32} (hd : d' ≠ d) : cN (endC C d t h w).2 3 d' k = cN C 3 d' k := by
  unfold endC; split
  · show cN (if cN C 5 t 3 ≤ h then C else cloC C d t) 3 d' k = _
    split
    · rfl
    · unfold cloC; split
      · rfl
      · split
        · rfl
        · rw [cN_sN, if_neg (by omega)]
          unfold clo1
          rw [addC_N _ _ _ (Or.inl (by decide))]; rfl
  · rfl
theorem endC_F4 {C : CS} {d t h d' k : Nat} {w : Int32} : cF (endC C d t h w).2 3 d' k = cF C 3 d' k := by
  unfold endC; split
  · show cF (if cN C 5 t 3 ≤ h then C else cloC C d t) 3 d' k = _
    split
    · rfl
    · unfold cloC; split
      · rfl
      · split
        · rfl
        · show cF (clo1 C t) 3 d' k = _
          unfold clo1; rw [addC_F, cF_sF, if_neg (by omega)]
  · rfl
theorem mvW_b {n d1 d2 p e0 : Nat} {C : CS} {Y : MS} (h : Rb n C Y) (h30 : mF Y 30 = 0) (hdd : d1 ≠ d2) (hS0 : SL C Y 0 d1) (hS1 : SL C Y 1 d2) (hp1 : cN C 3 d1 8 = 0) (hp2 : cN C 3 d2 8 = 0) :
    Rb n (mvW C d1 d2 p e0).2 (mmvW Y p e0) ∧ (mvW C d1 d2 p e0).1 = mF (mmvW Y p e0) 30 ∧ SL (mvW C d1 d2 p e0).2 (mmvW Y p e0) 0 d1 ∧ SL (mvW C d1 d2 p e0).2 (mmvW Y p e0) 1 d2 ∧ Ex C (mvW C d1 d2 p e0).2 ∧ ((mvW C d1 d2 p e0).1 = 0 → cN (mvW C d1 d2 p e0).2 3 d1 8 = p ∧ cN (mvW C d1 d2 p e0).2 3 d2 8 = e0) ∧ (∀ d, cF (mvW C d1 d2 p e0).2 3 d 4 = cF C 3 d 4) ∧ cN (mvW C d1 d2 p e0).2 3 d1 8 ≤ p ∧ cN (mvW C d1 d2 p e0).2 3 d2 8 ≤ e0 := by
  obtain ⟨b1, b2, b3, b4⟩ := wind_b (d := d1) (mm := 0) p 0 C Y h h30 hp1 hS0
  have eW : windC C d1 p = windL d1 p C := by unfold windC; rw [hp1, Nat.sub_zero]
  have eWm : mwin Y 0 0 p = mwL 0 p 0 Y := by unfold mwin; rw [if_neg (fun q => q h30), Nat.sub_zero]
  have hp := windL_pos (d := d1) p C
  have c7 : ∀ k, k ≠ 8 ∨ d2 ≠ d1 → cN (windL d1 p C).2 3 d2 k = cN C 3 d2 k := fun k hk => windL_N3 d2 k (by omega) p C
  have bS1 : SL (windL d1 p C).2 (mwL 0 p 0 Y) 1 d2 := SL_of hS1 (c7 7 (Or.inl (by decide))) (c7 8 (Or.inr (Ne.symm hdd))) (fun j hj => (Kp_win (by decide) p 0 Y h30).1 j hj)
  have c8 := c7 8 (Or.inr (Ne.symm hdd))
  have hF : ∀ d, cF (windL d1 p C).2 3 d 4 = cF C 3 d 4 := fun d => windL_F (by decide) p C
  unfold mvW mmvW
  rw [eW, eWm]
  generalize windL d1 p C = V at b1 b2 b3 b4 hp bS1 c8 hF ⊢
  generalize mwL 0 p 0 Y = N at b1 b2 b3 bS1 ⊢
  by_cases z : V.1 = 0
  · have zN30 : mF N 30 = 0 := b2.symm.trans z
    rw [if_neg (fun q => q z)]
    obtain ⟨r1, r2, r3, r4⟩ := wind_b (d := d2) (mm := 1) e0 0 V.2 N b1 zN30 (c8.trans hp2) bS1
    have eW2 : windC V.2 d2 e0 = windL d2 e0 V.2 := by unfold windC; rw [c8, hp2, Nat.sub_zero]
    have eWm2 : mwin N 1 0 e0 = mwL 1 e0 0 N := by unfold mwin; rw [if_neg (fun q => q zN30), Nat.sub_zero]
    have hq := windL_pos (d := d2) e0 V.2
    have c1 : ∀ k, k ≠ 8 ∨ d1 ≠ d2 → cN (windL d2 e0 V.2).2 3 d1 k = cN V.2 3 d1 k := fun k hk => windL_N3 d1 k (by omega) e0 V.2
    have rS0 : SL (windL d2 e0 V.2).2 (mwL 1 e0 0 N) 0 d1 := SL_of b3 (c1 7 (Or.inl (by decide))) (c1 8 (Or.inr hdd)) (fun j hj => (Kp_win (by decide) e0 0 N zN30).1 j hj)
    have c18 := c1 8 (Or.inr hdd)
    have hF2 : ∀ d, cF (windL d2 e0 V.2).2 3 d 4 = cF V.2 3 d 4 := fun d => windL_F (by decide) e0 V.2
    rw [eW2, eWm2]
    have := hp.2 z
    exact ⟨r1, r2, rS0, r3, b4.tr r4, fun w => ⟨by omega, by have := hq.2 w; omega⟩, fun d => (hF2 d).trans (hF d), by omega, by omega⟩
  · have zN30 : mF N 30 ≠ 0 := by rw [← b2]; exact z
    have e1 : mwin N 1 0 e0 = N := if_pos zN30
    rw [if_pos z, e1]
    exact ⟨b1, b2, b3, bS1, b4, fun q => absurd q z, hF, by omega, by omega⟩
theorem mmvL_ne {d1 t1 d2 t2 k a q : Nat} {M : MS} (h : mF M 30 ≠ 0) : mmvL d1 t1 d2 t2 k a q M = M := by
  cases k with
  | zero => rfl
  | succ k => unfold mmvL; rw [if_pos h]
theorem mmvL_A {d1 t1 d2 t2 j i : Nat} (h : j ≠ 11 ∧ j ≠ 12 ∧ j ≠ 14 ∧ j ≠ 19) (h2 : (j ≠ 5 ∧ j ≠ 6 ∧ j ≠ 7) ∧ j ≠ 2) : ∀ (k a q : Nat) (M : MS), mA (mmvL d1 t1 d2 t2 k a q M) j i = mA M j i := by
  intro k
  induction k with
  | zero => intro a q M; rfl
  | succ k ih =>
    intro a q M; unfold mmvL; split
    · rfl
    · rw [ih]; unfold mmvS; rw [mwr1_A h h2, mtak_A h]
theorem mmvL_F {d1 t1 d2 t2 f : Nat} (h : f ≠ 25 ∧ f ≠ 29 ∧ f ≠ 30) : ∀ (k a q : Nat) (M : MS), mF (mmvL d1 t1 d2 t2 k a q M) f = mF M f := by
  intro k
  induction k with
  | zero => intro a q M; rfl
  | succ k ih =>
    intro a q M; unfold mmvL; split
    · rfl
    · rw [ih]; unfold mmvS; rw [mwr1_F h, mtak_F h]
theorem mmvX_A {M : MS} {d1 t1 d2 t2 p z e0 j i : Nat} (h : j ≠ 11 ∧ j ≠ 12 ∧ j ≠ 14 ∧ j ≠ 19) (h2 : (j ≠ 5 ∧ j ≠ 6 ∧ j ≠ 7) ∧ j ≠ 2) : mA (mmvX M d1 t1 d2 t2 p z e0) j i = mA M j i := by
  unfold mmvX mmvW; rw [mmvL_A h h2, mwin_A h.2.2.2, mwin_A h.2.2.2]
theorem mmvX_F {M : MS} {d1 t1 d2 t2 p z e0 f : Nat} (h : f ≠ 25 ∧ f ≠ 29 ∧ f ≠ 30) : mF (mmvX M d1 t1 d2 t2 p z e0) f = mF M f := by
  unfold mmvX mmvW; rw [mmvL_F h, mwin_F h, mwin_F h]
theorem mi1_b {n d1 t1 d2 t2 p nm : Nat} {C : CS} {X Y Z : MS} (hb : Rb n C X) (h30 : mF X 30 = 0) (hS0 : SL C X 0 d1) (hp0 : cN C 3 d1 8 = 0) (hj1 : cF C 3 d1 4 = 0) (hI : Iv C) (hH : Hh n C) (hn : n ≤ 12) (hd1 : d1 < 3) (ht1 : t1 < n) (hd2 : d2 < 3) (ht2 : t2 < n) (hdd : d1 ≠ d2) (htt : t1 ≠ t2) (hr2 : cF C 3 d2 4 = 0) (hfit : p + zN C t1 p + 2 ≤ 100) (hY : Y = moD X 1 t2 (cN C 9 t2 0) d2) (hZ : Z = mclM (mmvK (mmvX Y d1 t1 d2 t2 p (zN C t1 p) (cN C 5 t2 3)) t1 t2 nm (cN C 5 t2 3)) 1 d2 t2 (cN C 5 t2 3)) :
    Rb n (mi1 C d1 t1 d2 t2 p).2 Z ∧ Sl (mi1 C d1 t1 d2 t2 p).2 Z 1 d2 ∧ Sl (mi1 C d1 t1 d2 t2 p).2 Z 0 d1 ∧ Iv (mi1 C d1 t1 d2 t2 p).2 ∧ Hh n (mi1 C d1 t1 d2 t2 p).2 ∧ Ex C (mi1 C d1 t1 d2 t2 p).2 ∧ (cN (mi1 C d1 t1 d2 t2 p).2 3 d1 8 < 2 ^ 31 ∧ cN (mi1 C d1 t1 d2 t2 p).2 3 d2 8 < 2 ^ 31) ∧ (mi1 C d1 t1 d2 t2 p).1 = (if mF Z 30 = 0 then nI (cN C 5 t2 3) else mF Z 30) ∧ (0 ≤ (mi1 C d1 t1 d2 t2 p).1 ↔ mF Z 30 = 0) ∧ (mF Z 30 = 0 → cN (mi1 C d1 t1 d2 t2 p).2 5 t2 3 = cN C 5 t2 3 + (zN C t1 p + 2) ∧ ∀ f i, f = 6 ∨ f = 7 ∨ f = 8 → i < zN C t1 p + 2 → kAt (mi1 C d1 t1 d2 t2 p).2 f t2 (cN C 5 t2 3 + i) = kAt C f t1 (p + i)) := by
  have ht12 : t2 < 12 := by omega
  have hcap := cap_t ht12
  have he1 : cN C 5 t2 3 ≤ 100 := by have := hI.1 t2; omega
  obtain ⟨a1, a2, a3, a4, a5⟩ := car_b (mm := 1) hb h30 hd2 ht2
  have hst := moD_st (mm := 1) (t := t2) (h := cN C 9 t2 0) (d := d2) h30
  have hK0 := (moD_1 (t := t2) (h := cN C 9 t2 0) (d := d2) h30).1
  rw [← hY] at a1 a2 a3 a4 hst hK0
  have hXI : Iv (carC C d2 t2).2 := carC_I hI
  have hXH : Hh n (carC C d2 t2).2 := Hh_Sm (Hh_of hH (fun _ _ _ => rfl) : Hh n (sM C d2 (some t2))) Sm_carC
  have hX8 : cN (carC C d2 t2).2 3 d2 8 = 0 := carC_pos
  have hX18 : cN (carC C d2 t2).2 3 d1 8 = cN C 3 d1 8 := by rw [carC_N3 d1 8 (Or.inl hdd), if_neg (fun q => hdd q.1)]
  have hX17 : cN (carC C d2 t2).2 3 d1 7 = cN C 3 d1 7 := by rw [carC_N3 d1 7 (Or.inl hdd), if_neg (fun q => hdd q.1)]
  have hX5 : cN (carC C d2 t2).2 5 t2 3 = cN C 5 t2 3 := carC_N (by decide)
  have hXj : ∀ d', cF (carC C d2 t2).2 3 d' 4 = cF C 3 d' 4 := fun d' => carC_j
  have hXk : ∀ f b a, kAt (carC C d2 t2).2 f b a = kAt C f b a := fun f b a => Sm_carC.k f b a
  have hXz : zN (carC C d2 t2).2 t1 p = zN C t1 p := by unfold zN; rw [hXk]
  have hcr := carC_r C d2 t2
  have hS0' : SL (carC C d2 t2).2 Y 0 d1 := SL_of hS0 hX17 hX18 (fun j hj => hK0 j hj)
  unfold mi1
  generalize carC C d2 t2 = Q at a1 a2 a3 a4 a5 hXI hXH hX8 hX18 hX17 hX5 hXj hXk hXz hcr hS0' ⊢
  rw [hX5]
  by_cases z : Q.1 = 0
  · rw [if_neg (fun q => q z)]
    have zY : mF Y 30 = 0 := a2.symm.trans z
    obtain ⟨b1, b2, b3, b4, b5, b6, b7, b8, b9⟩ := mvW_b (p := p) (e0 := cN C 5 t2 3) a1 zY hdd hS0' (a4 z) (hX18.trans hp0) hX8
    have hSm : Sm Q.2 (mvW Q.2 d1 d2 p (cN C 5 t2 3)).2 := Sm_mvW
    have hwr := mv1_r Q.2 d1 t1 d2 t2 p (cN C 5 t2 3)
    have eX : mmvX Y d1 t1 d2 t2 p (zN C t1 p) (cN C 5 t2 3) = mmvL d1 t1 d2 t2 (zN C t1 p + 2) p (cN C 5 t2 3) (mmvW Y p (cN C 5 t2 3)) := rfl
    unfold mvC
    unfold mv1 at hwr ⊢
    rw [hXz] at hwr ⊢
    generalize mvW Q.2 d1 d2 p (cN C 5 t2 3) = W at b1 b2 b3 b4 b5 b6 b7 b8 b9 hSm hwr ⊢
    generalize mmvW Y p (cN C 5 t2 3) = N at b1 b2 b3 b4 eX
    have hV5 : cN W.2 5 t2 3 = cN C 5 t2 3 := (hSm.1 5 t2 3 (by decide)).trans hX5
    obtain ⟨c1, c2, c3, c4, c5, c6, c7, c8⟩ := mv_b (S := fun f a => kAt C f t1 a) hn hd1 ht1 hd2 ht2 hdd htt (zN C t1 p + 2) p (cN C 5 t2 3) W.1 W.2 N b1 b2 b3 b4 (hSm.I hXI) (Hh_Sm hXH hSm) (fun f a _ => by rw [hSm.k, hXk]) (fun w0 => ⟨by rw [b7, hXj]; exact hj1, (b6 w0).1, by rw [b7, hXj]; exact hr2, (b6 w0).2, hV5⟩) (by omega)
    rw [← eX] at c1 c2 c3 c4
    have hwp1 := mvL_pos (d1 := d1) (t1 := t1) (d2 := d2) (t2 := t2) (d' := d1) (zN C t1 p + 2) p W.1 W.2
    have hwp2 := mvL_pos (d1 := d1) (t1 := t1) (d2 := d2) (t2 := t2) (d' := d2) (zN C t1 p + 2) p W.1 W.2
    generalize mvL d1 t1 d2 t2 (zN C t1 p + 2) p W.1 W.2 = U at c1 c2 c3 c4 c5 c6 c7 c8 hwr hwp1 hwp2 ⊢
    generalize mmvX Y d1 t1 d2 t2 p (zN C t1 p) (cN C 5 t2 3) = L at c1 c2 c3 c4 hZ
    have hU5 : cN U.2 5 t2 3 ≤ 100 := by have := c5.1 t2; omega
    have hxx : Ex C U.2 := a5.tr (b5.tr c7)
    have hpb2 : cN (endC U.2 d2 t2 (cN C 5 t2 3) U.1).2 3 d2 8 < 2 ^ 31 := by
      have := endC_pos (C := U.2) (d := d2) (t := t2) (h := cN C 5 t2 3) (w := U.1)
      omega
    have hpb1 : cN (endC U.2 d2 t2 (cN C 5 t2 3) U.1).2 3 d1 8 < 2 ^ 31 := by rw [endC_N3 hdd]; omega
    by_cases u : U.1 = 0
    · have zL : mF L 30 = 0 := c2.symm.trans u
      have eK : mmvK L t1 t2 nm (cN C 5 t2 3) = smA (smA L 9 (1000 * t2 + nm) (nI (cN C 5 t2 3 + 1))) 9 (1000 * t1 + nm) 0 := if_pos zL
      have eZ : Z = smA (smA L 9 (1000 * t2 + nm) (nI (cN C 5 t2 3 + 1))) 9 (1000 * t1 + nm) 0 := by rw [hZ, eK]; exact mclM_0 zL
      have eE : endC U.2 d2 t2 (cN C 5 t2 3) U.1 = (nI (cN C 5 t2 3), U.2) := by unfold endC; rw [if_neg (fun q => q u)]
      have zZ : mF Z 30 = 0 := by rw [eZ]; exact zL
      rw [eE] at hpb1 hpb2 ⊢
      obtain ⟨f1, f2⟩ := c8 u
      have hbd : cN C 5 t2 3 < 2 ^ 31 := by omega
      have hA : ∀ j i, 15 ≤ j → mA (smA (smA L 9 (1000 * t2 + nm) (nI (cN C 5 t2 3 + 1))) 9 (1000 * t1 + nm) 0) j i = mA L j i := fun j i hj => by rw [mA_nj (by omega), mA_nj (by omega)]
      exact ⟨by rw [eZ]; exact Rb_A (Or.inl rfl) (Rb_A (Or.inl rfl) c1), by rw [eZ]; exact Sl_of c4.sl rfl rfl (fun j hj => hA j _ hj), by rw [eZ]; exact Sl_of c3.sl rfl rfl (fun j hj => hA j _ hj), c5, c6, hxx, ⟨hpb1, hpb2⟩, by rw [if_pos zZ], ⟨fun _ => zZ, fun _ => nI_pos' hbd⟩, fun _ => ⟨f1, f2⟩⟩
    · have zL : mF L 30 ≠ 0 := by rw [← c2]; exact u
      have eK : mmvK L t1 t2 nm (cN C 5 t2 3) = L := if_neg zL
      have eZ : Z = mclM L 1 d2 t2 (cN C 5 t2 3) := by rw [hZ, eK]
      have zZ : mF Z 30 = U.1 := by rw [eZ, mclM_F (by decide), c2]
      obtain ⟨g1, g2, g3, g4⟩ := end_b (mm := 1) (b := cN C 5 t2 3) c1 hn hd2 ht2 c2 hU5 c4
      rw [if_pos u] at g4
      have neg := failR_neg hwr u
      have hS00 : Sl (endC U.2 d2 t2 (cN C 5 t2 3) U.1).2 (mclM L 1 d2 t2 (cN C 5 t2 3)) 0 d1 := Sl_of c3.sl (endC_N3 hdd) (endC_N3 hdd) (fun j hj => (Kp_clo (by decide)).1 j hj)
      rw [← eZ] at g1 g2 hS00
      refine ⟨g1, g2.sl, hS00, endC_I c5, Hh_end c6, hxx.tr g3, ⟨hpb1, hpb2⟩, ?_, ?_, fun q => ?_⟩
      · rw [if_neg (by rw [zZ]; exact u), zZ, g4]
      · rw [g4]
        exact ⟨fun q => absurd neg (Int32.not_lt.mpr q), fun q => absurd (zZ.symm.trans q) u⟩
      · exact absurd (zZ.symm.trans q) u
  · rw [if_pos z]
    have zY : mF Y 30 ≠ 0 := by rw [← a2]; exact z
    have z18 : mA Y 18 1 = 0 := by
      rcases hst with q | q
      · exact absurd q.1 zY
      · exact q.2
    have eW : mmvX Y d1 t1 d2 t2 p (zN C t1 p) (cN C 5 t2 3) = Y := by
      unfold mmvX mmvW
      have e1 : mwin Y 0 0 p = Y := if_pos zY
      have e2 : mwin Y 1 0 (cN C 5 t2 3) = Y := if_pos zY
      rw [e1, e2]; exact mmvL_ne zY
    have eK : mmvK Y t1 t2 nm (cN C 5 t2 3) = Y := if_neg zY
    have eZ : Z = Y := by rw [hZ, eW, eK]; exact if_pos z18
    rw [eZ]
    have neg : Q.1 < 0 := by
      rcases hcr with q | q
      · exact absurd q z
      · rw [q]; decide
    exact ⟨a1, a3, hS0'.sl, hXI, hXH, a5, ⟨by rw [hX18, hp0]; decide, by rw [hX8]; decide⟩, by rw [if_neg zY]; exact a2, ⟨fun q => absurd neg (Int32.not_lt.mpr q), fun q => absurd q zY⟩, fun q => absurd q zY⟩
