/-! ===== the two sides: copy ===== -/
theorem windL_F {d f i k' : Nat} (h : f ≠ 1) : ∀ (k : Nat) (C : CS), cF (windL d k C).2 f i k' = cF C f i k' := by
  intro k
  induction k with
  | zero => intro C; rfl
  | succ k ih =>
    intro C; unfold windL; split
    · rw [ih, cF_sN, wkC_F _ _ _ _ h]
    · exact wkC_F _ _ _ _ h
theorem carL_F {d f i k' : Nat} (h : f ≠ 1) : ∀ (k : Nat) (C : CS), cF (carL d k C).2 f i k' = cF C f i k' := by
  intro k
  induction k with
  | zero => intro C; rfl
  | succ k ih =>
    intro C; unfold carL; split
    · rw [ih, cF_sN, wkC_F _ _ _ _ h]
    · exact wkC_F _ _ _ _ h
theorem carC_j {C : CS} {d t d' : Nat} : cF (carC C d t).2 3 d' 4 = cF C 3 d' 4 := by
  unfold carC carE
  split
  · rw [cF_sF, if_neg (by omega), cF_sF, if_neg (by omega), carL_F (by decide)]; rfl
  · rw [carL_F (by decide)]; rfl
theorem wriC_pos {C : CS} {d t b a : Nat} : cN (wriC C d t b a).2 3 d 8 ≤ cN C 3 d 8 + 1 := by
  have := pasC_pos C d
  unfold wriC; split
  · show cN C 3 d 8 ≤ _; omega
  · split
    · exact this
    · show cN (addC _ _ _ _ _) 3 d 8 ≤ _; rw [addC_N _ _ _ (Or.inl (by decide))]; exact this
theorem wsL_pos {d t : Nat} : ∀ (k j : Nat) (w : Int32) (C : CS), cN (wsL d t k j w C).2 3 d 8 ≤ cN C 3 d 8 + k := by
  intro k
  induction k with
  | zero => intro j w C; exact Nat.le_refl _
  | succ k ih =>
    intro j w C; unfold wsL; split
    · show cN C 3 d 8 ≤ _; omega
    · have h1 := ih (j + 1) (wriC C d t 12 j).1 (wriC C d t 12 j).2
      have h2 := wriC_pos (C := C) (d := d) (t := t) (b := 12) (a := j)
      omega
theorem endC_pos {C : CS} {d t h : Nat} {w : Int32} : cN (endC C d t h w).2 3 d 8 ≤ cN C 3 d 8 + 101 := by
  have hc := cap_le t
  unfold endC; split
  · show cN (if cN C 5 t 3 ≤ h then C else cloC C d t) 3 d 8 ≤ _
    split
    · omega
    · unfold cloC; split
      · omega
      · split
        · omega
        · rename_i q
          rw [cN_sN, if_pos ⟨rfl, rfl, rfl⟩]
          unfold clo1
          rw [cN_add (show cN (sF C 1 0 1 (cF C 1 0 1 + 1)) 5 t 3 < cap t by rw [cN_sF]; omega), if_pos rfl]
          show cN C 5 t 3 + 1 ≤ _
          omega
  · show cN C 3 d 8 ≤ _; omega
theorem mcpW_mws {M : MS} {d t e0 nm sz : Nat} {sd sp : Int32} {S : Nat → Nat → Int32} (h0 : S 6 0 = 1 ∧ S 7 0 = nI nm ∧ S 8 0 = nI sz) (h1 : ∀ k, k < sz → S 6 (k + 1) = 2 ∧ S 7 (k + 1) = sd + nI k * sp ∧ S 8 (k + 1) = 0) (h2 : S 6 (sz + 1) = 3 ∧ S 7 (sz + 1) = 0 ∧ S 8 (sz + 1) = 0) : mcpW M d t e0 nm sz sd sp = mws d t (S 6) (S 7) (S 8) (sz + 2) 0 e0 (mwin M 0 0 e0) := by
  have e1 : mws d t (S 6) (S 7) (S 8) (sz + 2) 0 e0 (mwin M 0 0 e0) = mws d t (S 6) (S 7) (S 8) (sz + 1) 1 (e0 + 1) (mcpH M d t e0 nm sz) := by
    show mws d t (S 6) (S 7) (S 8) (sz + 1) 1 (e0 + 1) (mwr1 (mwin M 0 0 e0) 0 d t e0 (S 6 0) (S 7 0) (S 8 0)) = _
    rw [h0.1, h0.2.1, h0.2.2]; rfl
  rw [e1, mws_add]
  show mwr1 _ 0 d t _ 3 0 0 = mwr1 _ 0 d t _ (S 6 (1 + sz)) (S 7 (1 + sz)) (S 8 (1 + sz))
  rw [show 1 + sz = sz + 1 by omega, h2.1, h2.2.1, h2.2.2, mcpL_mws (K := S 6) (V := S 7) (Z := S 8) sz 0 (e0 + 1) _ (fun i _ hi => h1 i (by omega))]
theorem cop1_b {n d t sz nm : Nat} {C : CS} {M : MS} {sd sp : Int32} (hR : R0 n C M) (h30 : mF M 30 = 0) (hn : n ≤ 12) (hd : d < 3) (ht : t < n) (hr : rdyP C d) (hz1 : 1 ≤ sz) (hz30 : sz ≤ 30) (hnm : nm < 1000) (hend : cN C 5 12 3 = sz + 2) (h0 : kAt C 6 12 0 = 1 ∧ kAt C 7 12 0 = nI nm ∧ kAt C 8 12 0 = nI sz) (h1 : ∀ k, k < sz → kAt C 6 12 (k + 1) = 2 ∧ kAt C 7 12 (k + 1) = sd + nI k * sp ∧ kAt C 8 12 (k + 1) = 0) (h2 : kAt C 6 12 (sz + 1) = 3 ∧ kAt C 7 12 (sz + 1) = 0 ∧ kAt C 8 12 (sz + 1) = 0) {Y Z : MS} (hY : Y = moD M 0 t (cN C 9 t 0) d) (hZ : Z = mclM (mcpK (mcpW Y d t (cN C 5 t 3) nm sz sd sp) t nm (cN C 5 t 3)) 0 d t (cN C 5 t 3)) :
    Rb n (cop1 C d t).2 Z ∧ Sl (cop1 C d t).2 Z 0 d ∧ Iv (cop1 C d t).2 ∧ Hh n (cop1 C d t).2 ∧ Ex C (cop1 C d t).2 ∧ cN (cop1 C d t).2 3 d 8 < 2 ^ 31 ∧ (cop1 C d t).1 = (if mF Z 30 = 0 then nI (cN C 5 t 3) else mF Z 30) ∧ (0 ≤ (cop1 C d t).1 ↔ mF Z 30 = 0) ∧ (mF Z 30 = 0 → kAt (cop1 C d t).2 6 t (cN C 5 t 3) = 1 ∧ kAt (cop1 C d t).2 7 t (cN C 5 t 3) = nI nm ∧ kAt (cop1 C d t).2 8 t (cN C 5 t 3) = nI sz ∧ cN (cop1 C d t).2 5 t 3 = cN C 5 t 3 + (sz + 2)) ∧ (∀ d', cM (cop1 C d t).2 d' = if d' = d then some t else cM C d') := by
  obtain ⟨hI, hM, hb, h10, hc, hH, hs⟩ := hR
  have ht12 : t < 12 := by omega
  have hcap := cap_t ht12
  have he1 : cN C 5 t 3 ≤ 100 := by have := hI.1 t; omega
  obtain ⟨a1, a2, a3, a4, a5⟩ := car_b (mm := 0) hb h30 hd ht
  have hst := moD_st (mm := 0) (t := t) (h := cN C 9 t 0) (d := d) h30
  rw [← hY] at a1 a2 a3 a4 hst
  have hXI : Iv (carC C d t).2 := carC_I hI
  have hXH : Hh n (carC C d t).2 := Hh_Sm (Hh_of hH (fun _ _ _ => rfl) : Hh n (sM C d (some t))) Sm_carC
  have hX8 : cN (carC C d t).2 3 d 8 = 0 := carC_pos
  have hX5 : cN (carC C d t).2 5 t 3 = cN C 5 t 3 := carC_N (by decide)
  have hX12 : cN (carC C d t).2 5 12 3 = sz + 2 := by rw [carC_N (by decide)]; exact hend
  have hXj : cF (carC C d t).2 3 d 4 = 0 := by rw [carC_j]; exact hr.1
  have hXk : ∀ f b a, kAt (carC C d t).2 f b a = kAt C f b a := fun f b a => Sm_carC.k f b a
  have hcr := carC_r C d t
  have hcM : ∀ d', cM (carC C d t).2 d' = if d' = d then some t else cM C d' := fun d' => carC_M d'
  unfold cop1
  generalize carC C d t = X at a1 a2 a3 a4 a5 hXI hXH hX8 hX5 hX12 hXj hXk hcr hcM ⊢
  rw [hX5]
  by_cases z : X.1 = 0
  · rw [if_neg (fun q => q z)]
    have zY : mF Y 30 = 0 := a2.symm.trans z
    -- winding
    obtain ⟨b1, b2, b3, b4⟩ := wind_b (d := d) (mm := 0) (cN C 5 t 3) 0 X.2 Y a1 zY hX8 (a4 z)
    have eW : windC X.2 d (cN C 5 t 3) = windL d (cN C 5 t 3) X.2 := by unfold windC; rw [hX8, Nat.sub_zero]
    have eWm : mwin Y 0 0 (cN C 5 t 3) = mwL 0 (cN C 5 t 3) 0 Y := by unfold mwin; rw [if_neg (fun q => q zY), Nat.sub_zero]
    have hp := windL_pos (d := d) (cN C 5 t 3) X.2
    have hSm : Sm X.2 (windL d (cN C 5 t 3) X.2).2 := Sm_wind _ _
    have hwF : cF (windL d (cN C 5 t 3) X.2).2 3 d 4 = 0 := by rw [windL_F (by decide)]; exact hXj
    have hwr := ws1_r X.2 d t (cN C 5 t 3)
    have hMW : mcpW Y d t (cN C 5 t 3) nm sz sd sp = mws d t (fun a => kAt C 6 12 a) (fun a => kAt C 7 12 a) (fun a => kAt C 8 12 a) (sz + 2) 0 (cN C 5 t 3) (mwin Y 0 0 (cN C 5 t 3)) := mcpW_mws (S := fun f a => kAt C f 12 a) h0 h1 h2
    unfold wsC
    unfold ws1 at hwr ⊢
    rw [hX12] at hwr ⊢
    rw [eW] at hwr ⊢
    rw [eWm] at hMW
    generalize windL d (cN C 5 t 3) X.2 = V at b1 b2 b3 b4 hp hSm hwF hwr ⊢
    generalize mwL 0 (cN C 5 t 3) 0 Y = N at b1 b2 b3 hMW ⊢
    have hV5 : cN V.2 5 t 3 = cN C 5 t 3 := (hSm.1 5 t 3 (by decide)).trans hX5
    obtain ⟨c1, c2, c3, c4, c5, c6, c7⟩ := ws_b (S := fun f a => kAt C f 12 a) hn hd ht (sz + 2) 0 (cN C 5 t 3) V.1 V.2 N b1 b2 b3 (hSm.I hXI) (Hh_Sm hXH hSm) (fun f a _ => by rw [hSm.k, hXk]) (fun w0 => ⟨hwF, by have := hp.2 w0; omega, hV5⟩)
    rw [← hMW] at c1 c2 c3
    have hwp := wsL_pos (d := d) (t := t) (sz + 2) 0 V.1 V.2
    have hwM : cM (wsL d t (sz + 2) 0 V.1 V.2).2 = cM X.2 := by rw [wsL_M, hSm.2.2]
    generalize wsL d t (sz + 2) 0 V.1 V.2 = U at c1 c2 c3 c4 c5 c6 c7 hwr hwp hwM ⊢
    have c7 : U.1 = 0 → cN U.2 5 t 3 = cN C 5 t 3 + (sz + 2) ∧ ∀ f i, f = 6 ∨ f = 7 ∨ f = 8 → i < sz + 2 → kAt U.2 f t (cN C 5 t 3 + i) = kAt C f 12 (0 + i) := c7
    generalize mcpW Y d t (cN C 5 t 3) nm sz sd sp = L at c1 c2 c3 hZ
    have hU5 : cN U.2 5 t 3 ≤ 100 := by have := c4.1 t; omega
    have hxx : Ex C U.2 := a5.tr (b4.tr c6)
    have hpb : cN (endC U.2 d t (cN C 5 t 3) U.1).2 3 d 8 < 2 ^ 31 := by
      have := endC_pos (C := U.2) (d := d) (t := t) (h := cN C 5 t 3) (w := U.1)
      omega
    have hMM : ∀ d', cM (endC U.2 d t (cN C 5 t 3) U.1).2 d' = if d' = d then some t else cM C d' := fun d' => by
      rw [← hcM, endC_M, hwM]
    by_cases u : U.1 = 0
    · have zL : mF L 30 = 0 := c2.symm.trans u
      have eK : mcpK L t nm (cN C 5 t 3) = smA L 9 (1000 * t + nm) (nI (cN C 5 t 3 + 1)) := if_pos zL
      have eZ : Z = smA L 9 (1000 * t + nm) (nI (cN C 5 t 3 + 1)) := by rw [hZ, eK]; exact mclM_0 zL
      have eE : endC U.2 d t (cN C 5 t 3) U.1 = (nI (cN C 5 t 3), U.2) := by unfold endC; rw [if_neg (fun q => q u)]
      have zZ : mF Z 30 = 0 := by rw [eZ]; exact zL
      rw [eE] at hpb hMM ⊢
      obtain ⟨f1, f2⟩ := c7 u
      have hbd : cN C 5 t 3 < 2 ^ 31 := by omega
      refine ⟨by rw [eZ]; exact Rb_A (Or.inl rfl) c1, by rw [eZ]; exact Sl_of c3.sl rfl rfl (fun j _ => mA_nj (by omega)), c4, c5, hxx, hpb, by rw [if_pos zZ], ⟨fun _ => zZ, fun _ => nI_pos' hbd⟩, fun _ => ⟨?_, ?_, ?_, f1⟩, hMM⟩
      · have := f2 6 0 (by decide) (by omega); rw [Nat.add_zero] at this; exact this.trans h0.1
      · have := f2 7 0 (by decide) (by omega); rw [Nat.add_zero] at this; exact this.trans h0.2.1
      · have := f2 8 0 (by decide) (by omega); rw [Nat.add_zero] at this; exact this.trans h0.2.2
    · have zL : mF L 30 ≠ 0 := by rw [← c2]; exact u
      have eK : mcpK L t nm (cN C 5 t 3) = L := if_neg zL
      have eZ : Z = mclM L 0 d t (cN C 5 t 3) := by rw [hZ, eK]
      have zZ : mF Z 30 = U.1 := by rw [eZ, mclM_F (by decide), c2]
      obtain ⟨g1, g2, g3, g4⟩ := end_b (mm := 0) (b := cN C 5 t 3) c1 hn hd ht c2 hU5 c3
      rw [if_pos u] at g4
      have neg := failR_neg hwr u
      rw [← eZ] at g1 g2
      refine ⟨g1, g2.sl, endC_I c4, Hh_end c5, hxx.tr g3, hpb, ?_, ?_, fun q => ?_, hMM⟩
      · rw [if_neg (by rw [zZ]; exact u), zZ, g4]
      · rw [g4]
        exact ⟨fun q => absurd neg (Int32.not_lt.mpr q), fun q => absurd (zZ.symm.trans q) u⟩
      · exact absurd (zZ.symm.trans q) u
  · rw [if_pos z]
    have zY : mF Y 30 ≠ 0 := by rw [← a2]; exact z
    have z18 : mA Y 18 0 = 0 := by
      rcases hst with q | q
      · exact absurd q.1 zY
      · exact q.2
    have eW : mcpW Y d t (cN C 5 t 3) nm sz sd sp = Y := by
      rw [mcpW_mws (S := fun f a => kAt C f 12 a) h0 h1 h2]
      have : mwin Y 0 0 (cN C 5 t 3) = Y := if_pos zY
      rw [this]; exact mws_ne _ _ _ _ zY
    have eK : mcpK Y t nm (cN C 5 t 3) = Y := if_neg zY
    have eZ : Z = Y := by rw [hZ, eW, eK]; exact if_pos z18
    rw [eZ]
    have neg : X.1 < 0 := by
      rcases hcr with q | q
      · exact absurd q z
      · rw [q]; decide
    refine ⟨a1, a3, hXI, hXH, a5, by rw [hX8]; decide, by rw [if_neg zY]; exact a2, ⟨fun q => absurd neg (Int32.not_lt.mpr q), fun q => absurd q zY⟩, fun q => absurd q zY, hcM⟩
