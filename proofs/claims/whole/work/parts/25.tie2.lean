/-! ===== the two sides: reading, writing, closing, bringing home ===== -/
theorem rea_b {n d t mm q : Nat} {C : CS} {M : MS} (h : Rb n C M) (h0 : mF M 30 = 0) (hd : d < 3) (ht : t < n) (hj : cF C 3 d 4 = 0) (hq : cN C 3 d 8 = q) (hq1 : q < 100) (hS : SL C M mm d) :
    Rb n (reaC C d t).2 (mtak M mm d t q) ∧ (reaC C d t).1 = mF (mtak M mm d t q) 30 ∧ SL (reaC C d t).2 (mtak M mm d t q) mm d ∧ Ex C (reaC C d t).2 ∧ ((reaC C d t).1 = 0 ∨ (reaC C d t).1 = -7 → cF (reaC C d t).2 3 d 4 = 0 ∧ cN (reaC C d t).2 3 d 8 = q + 1) := by
  obtain ⟨p1, p2, p3, p4, p5⟩ := pas_b (mm := mm) h h0 hd hj hq hS
  have hr := pasC_r C d
  unfold reaC mtak
  rw [hq]
  generalize pasC C d = X at p1 p2 p3 p4 p5 hr ⊢
  generalize mpas0 M mm d q = Y at p1 p2 p3 ⊢
  have hk := (p1.2.2.2.1 t q ht hq1).2.2.2
  by_cases z : X.1 = 0
  · have zy : mF Y 30 = 0 := by rw [← p2]; exact z
    rw [if_neg (show ¬ X.1 ≠ 0 from fun q => q z), if_pos zy]
    by_cases e : mA Y 8 (100 * t + q) = 0
    · rw [if_neg (show ¬ dmgP X.2 t q from fun w => w.2 (hk.mp e)), if_pos e]
      exact ⟨p1, p2, p3, p4, fun _ => p5 z⟩
    · rw [if_pos (show dmgP X.2 t q from ⟨hq1, fun w => e (hk.mpr w)⟩), if_neg e]
      exact ⟨Rb_F (by decide) p1, rfl, p3, p4, fun _ => p5 z⟩
  · have zy : ¬ mF Y 30 = 0 := by rw [← p2]; exact z
    rw [if_pos (show X.1 ≠ 0 from z), if_neg zy]
    refine ⟨p1, p2, p3, p4, fun w => ?_⟩
    rcases w with w | w
    · exact absurd w z
    · rw [w] at hr; exact absurd hr (by decide)
theorem kAt_add {C : CS} {t b a f : Nat} {k v z : Int32} (hf : f = 6 ∨ f = 7 ∨ f = 8) (hc : cN C 5 t 3 < cap t) : kAt (addC C t k v z) f b a = if b = t ∧ a = cN C 5 t 3 then (if f = 6 then k else if f = 7 then v else z) else kAt C f b a := by
  unfold addC
  rw [if_neg (by omega)]
  unfold kAt
  rw [cN_sN, cB_sN, cB_sB, cB_sB, cB_sB]
  simp only [cN_sB]
  by_cases e : b = t
  · subst e
    rcases hf with rfl | rfl | rfl <;> by_cases e2 : a = cN C 5 b 3 <;> by_cases e3 : a < cN C 5 b 3 <;> by_cases e4 : a < cN C 5 b 3 + 1 <;> simp [e2, e3, e4] <;> omega
  · rcases hf with rfl | rfl | rfl <;> simp [e]
theorem cN_add {C : CS} {t b : Nat} {k v z : Int32} (hc : cN C 5 t 3 < cap t) : cN (addC C t k v z) 5 b 3 = if b = t then cN C 5 t 3 + 1 else cN C 5 b 3 := by
  unfold addC
  rw [if_neg (by omega), cN_sN]
  simp only [cN_sB]
  by_cases e : b = t
  · simp [e]
  · simp [e]
theorem Ex_add {C : CS} {t : Nat} {k v z : Int32} (ht : t ≠ 12) : Ex C (addC C t k v z) := by
  unfold addC; split
  · exact Ex.rf
  · refine ⟨fun b => ?_, fun f b a hf ha => ?_, fun f b a hf => ?_, ?_, fun t' => ?_, rfl, rfl⟩
    · rw [cN_sN]
      show cN C 5 b 3 ≤ if 3 = 3 ∧ 5 = 5 ∧ b = t then cN C 5 t 3 + 1 else cN C 5 b 3
      by_cases e : b = t
      · subst e; simp
      · simp [e]
    · rw [cB_sN, cB_sB, cB_sB, cB_sB]
      by_cases e : b = t
      · subst e; rw [if_neg (by omega), if_neg (by omega), if_neg (by omega)]
      · rw [if_neg (by omega), if_neg (by omega), if_neg (by omega)]
    · rw [cB_sN, cB_sB, if_neg (by omega), cB_sB, if_neg (by omega), cB_sB, if_neg (by omega)]
    · rw [cN_sN, if_neg (by omega)]; rfl
    · rw [cN_sN, if_neg (by omega)]; rfl
theorem add_b {n t q : Nat} {C : CS} {M : MS} {k v z : Int32} (h : Rb n C M) (hn : n ≤ 12) (ht : t < n) (he : cN C 5 t 3 = q) (hq : q < 100) : Rb n (addC C t k v z) (mput M t q k v z) := by
  have hc : cN C 5 t 3 < cap t := by rw [cap_t (by omega)]; omega
  obtain ⟨gg, gd, gt, gk, gz⟩ := h
  refine ⟨?_, fun d' q' => ?_, fun t' q' => ?_, fun t' a q' q2 => ?_, Bk_of gz (fun j t' h1 h2 h3 h4 => by unfold mput; rw [mA_ni (by omega), mA_nj (by omega), mA_nj (by omega), mA_nj (by omega)]) (fun j t' a h1 h2 h3 h4 h5 => by unfold mput; rw [mA_nj (by omega), mA_ni (by omega), mA_ni (by omega), mA_ni (by omega)])⟩
  · unfold Rg; rw [addC_F]; exact gg
  · exact Rd_of (gd d' q') (fun k => by rw [addC_F]) (fun j i _ _ => mput_A (by omega))
  · obtain ⟨e1, e2, e3, e4⟩ := gt t' q'
    unfold Rt
    rw [mput_A (by decide), mput_2, mput_A (by decide), mput_A (by decide), addC_F, cN_add hc, addC_N _ _ _ (Or.inl (by decide))]
    refine ⟨e1, ?_, e3, e4⟩
    by_cases e : t' = t
    · subst e; rw [if_pos rfl, if_pos rfl, e2, nI_1]
    · rw [if_neg e, if_neg e]; exact e2
  · obtain ⟨e1, e2, e3, e4⟩ := gk t' a q' q2
    unfold Rk
    rw [kAt_add (by decide) hc, kAt_add (by decide) hc, kAt_add (by decide) hc, he]
    have hB : cB (addC C t k v z) 10 t' a = cB C 10 t' a := (Ex_add (by omega)).2.2.1 10 t' a (by decide)
    rw [hB, mput_A (j := 8) (by decide)]
    have hi : (100 * t' + a = 100 * t + q) ↔ (t' = t ∧ a = q) := by omega
    unfold mput
    refine ⟨?_, ?_, ?_, e4⟩
    · rw [mA_nj (by decide), mA_nj (by decide), mA_nj (by decide), mA_smA]
      by_cases e : t' = t ∧ a = q
      · rw [if_pos ⟨rfl, hi.mpr e⟩, if_pos e]; rfl
      · rw [if_neg (fun w => e (hi.mp w.2)), if_neg e]; exact e1
    · rw [mA_nj (by decide), mA_nj (by decide), mA_smA]
      by_cases e : t' = t ∧ a = q
      · rw [if_pos ⟨rfl, hi.mpr e⟩, if_pos e]; rfl
      · rw [if_neg (fun w => e (hi.mp w.2)), if_neg e, mA_nj (by decide)]; exact e2
    · rw [mA_nj (by decide), mA_smA]
      by_cases e : t' = t ∧ a = q
      · rw [if_pos ⟨rfl, hi.mpr e⟩, if_pos e]; rfl
      · rw [if_neg (fun w => e (hi.mp w.2)), if_neg e, mA_nj (by decide), mA_nj (by decide)]; exact e3
theorem SL_put {C : CS} {M : MS} {mm d t q : Nat} {k v z : Int32} (h : SL C M mm d) : SL (addC C t k v z) (mput M t q k v z) mm d :=
  SL_of h (addC_N _ _ _ (Or.inl (by decide))) (addC_N _ _ _ (Or.inl (by decide))) (fun j _ => mput_A (by omega))
theorem wri_b {n d t mm q b a : Nat} {C : CS} {M : MS} (h : Rb n C M) (h0 : mF M 30 = 0) (hn : n ≤ 12) (hd : d < 3) (ht : t < n) (hj : cF C 3 d 4 = 0) (hq : cN C 3 d 8 = q) (he : cN C 5 t 3 = q) (hq1 : q ≤ 100) (hS : SL C M mm d) :
    Rb n (wriC C d t b a).2 (mwri M mm d t q (kAt C 6 b a) (kAt C 7 b a) (kAt C 8 b a)) ∧ (wriC C d t b a).1 = mF (mwri M mm d t q (kAt C 6 b a) (kAt C 7 b a) (kAt C 8 b a)) 30 ∧ SL (wriC C d t b a).2 (mwri M mm d t q (kAt C 6 b a) (kAt C 7 b a) (kAt C 8 b a)) mm d ∧ Ex C (wriC C d t b a).2 ∧ ((wriC C d t b a).1 = 0 → cF (wriC C d t b a).2 3 d 4 = 0 ∧ cN (wriC C d t b a).2 3 d 8 = q + 1 ∧ cN (wriC C d t b a).2 5 t 3 = q + 1 ∧ q < 100 ∧ ∀ f, f = 6 ∨ f = 7 ∨ f = 8 → kAt (wriC C d t b a).2 f t q = kAt C f b a) := by
  have hcap := cap_t (show t < 12 by omega)
  by_cases e100 : q = 100
  · have e1 : wriC C d t b a = (-6, C) := by unfold wriC; rw [if_pos (by omega)]
    have e2 : mwri M mm d t q (kAt C 6 b a) (kAt C 7 b a) (kAt C 8 b a) = smF M 30 (-6) := by
      unfold mwri mpas1; rw [if_pos e100, if_neg (show ¬ (mF (smF M 30 (-6)) 30 = 0) from (show ¬ ((-6 : Int32) = 0) by decide))]
    rw [e1, e2]
    exact ⟨Rb_F (by decide) h, rfl, hS, Ex.rf, fun q => absurd q (show ¬ ((-6 : Int32) = 0) by decide)⟩
  · obtain ⟨p1, p2, p3, p4, p5⟩ := pas_b (mm := mm) h h0 hd hj hq hS
    have hk := Sm_pas (C := C) (d := d)
    unfold wriC mwri mpas1
    rw [if_neg (by omega), if_neg e100, hk.k, hk.k, hk.k]
    have hen : cN (pasC C d).2 5 t 3 = q := (hk.1 5 t 3 (by decide)).trans he
    generalize pasC C d = X at p1 p2 p3 p4 p5 hen ⊢
    generalize mpas0 M mm d q = Y at p1 p2 p3 ⊢
    by_cases z : X.1 = 0
    · have zy : mF Y 30 = 0 := by rw [← p2]; exact z
      rw [if_neg (show ¬ X.1 ≠ 0 from fun q => q z), if_pos zy]
      have hq2 : q < 100 := by omega
      refine ⟨add_b p1 hn ht hen hq2, p2, SL_put p3, p4.tr (Ex_add (by omega)), fun _ => ⟨?_, ?_, ?_, hq2, fun f hf => ?_⟩⟩
      · show cF (addC X.2 t _ _ _) 3 d 4 = 0; rw [addC_F]; exact (p5 z).1
      · show cN (addC X.2 t _ _ _) 3 d 8 = q + 1; rw [addC_N _ _ _ (Or.inl (by decide))]; exact (p5 z).2
      · show cN (addC X.2 t _ _ _) 5 t 3 = q + 1; rw [cN_add (by omega), if_pos rfl, hen]
      · show kAt (addC X.2 t _ _ _) f t q = _
        rw [kAt_add hf (by omega), if_pos ⟨rfl, hen.symm⟩]
        rcases hf with rfl | rfl | rfl <;> rfl
    · have zy : ¬ mF Y 30 = 0 := by rw [← p2]; exact z
      rw [if_pos (show X.1 ≠ 0 from z), if_neg zy]
      exact ⟨p1, p2, p3, p4, fun q => absurd q z⟩
theorem mclM_F {M : MS} {mm d t b f : Nat} (h : f ≠ 26) : mF (mclM M mm d t b) f = mF M f := by
  unfold mclM mclo mclo1 mput
  split
  · rfl
  · split
    · rfl
    · split
      · rfl
      · split
        · rfl
        · split
          · simp [mF_smA, mF_smF, h]
          · rfl
theorem mclM_A {M : MS} {mm d t b j i : Nat} (h : ((j ≠ 5 ∧ j ≠ 6 ∧ j ≠ 7) ∧ j ≠ 2) ∧ (j ≠ 19 ∨ i ≠ mm)) : mA (mclM M mm d t b) j i = mA M j i := by
  unfold mclM mclo mclo1
  split
  · rfl
  · split
    · rfl
    · split
      · rfl
      · split
        · rfl
        · split
          · rw [mA_smA, if_neg (by omega), mput_A h.1]; rfl
          · rfl
theorem mclM_0 {M : MS} {mm d t b : Nat} (h : mF M 30 = 0) : mclM M mm d t b = M := by
  simp [mclM, h]
theorem Rb_care {n : Nat} {C : CS} {M : MS} {x y : Int32} (h : Rb n C M) (e : x = y) : Rb n (sF C 1 0 1 (cF C 1 0 1 + x)) (smF M 26 (mF M 26 + y)) := by
  subst e
  obtain ⟨⟨g0, g1, g2, g3, g4⟩, gd, gt, gk, gz⟩ := h
  refine ⟨?_, fun d q => Rd_of (gd d q) (fun k => by rw [cF_sF, if_neg (by omega)]) (fun _ _ _ _ => rfl), fun t q => Rt_of (gt t q) rfl rfl (fun k => by rw [cF_sF, if_neg (by omega)]) (fun _ _ _ _ => rfl), fun t a q q2 => Rk_of (gk t a q q2) rfl (fun _ _ => rfl) (fun _ _ _ _ => rfl), gz⟩
  unfold Rg; simp [cF_sF, mF_smF, g0, g1, g2, g3, g4]
theorem end_b {n d t mm b : Nat} {C : CS} {M : MS} {w : Int32} (h : Rb n C M) (hn : n ≤ 12) (hd : d < 3) (ht : t < n) (hw : w = mF M 30) (he : cN C 5 t 3 ≤ 100) (hS : SL C M mm d) :
    Rb n (endC C d t b w).2 (mclM M mm d t b) ∧ SL (endC C d t b w).2 (mclM M mm d t b) mm d ∧ Ex C (endC C d t b w).2 ∧ (endC C d t b w).1 = (if w ≠ 0 then w else nI b) := by
  have hcap := cap_t (show t < 12 by omega)
  by_cases z : w ≠ 0
  · have e2 : mN M 2 t = cN C 5 t 3 := mN_of (h.2.2.1 t ht).2.1 (by omega)
    have e18 : ¬ mA M 18 mm = 0 := by rw [hS.2.1]; decide
    unfold endC mclM mclo cloC
    have e30 : ¬ mF M 30 = 0 := by rw [← hw]; exact z
    rw [if_pos z, if_neg e18, if_neg e30, e2, (h.2.1 d hd).1, if_pos z]
    by_cases b1 : cN C 5 t 3 ≤ b
    · rw [if_pos b1, if_pos b1]; exact ⟨h, hS, Ex.rf, rfl⟩
    · rw [if_neg b1, if_neg b1]
      by_cases b2 : 100 ≤ cN C 5 t 3
      · rw [if_pos b2, if_pos (show cap t ≤ cN C 5 t 3 by omega)]
        refine ⟨?_, ?_, ?_, rfl⟩
        · show Rb n (if cF C 3 d 4 ≠ 0 then C else C) M; split <;> exact h
        · show SL (if cF C 3 d 4 ≠ 0 then C else C) M mm d; split <;> exact hS
        · show Ex C (if cF C 3 d 4 ≠ 0 then C else C); split <;> exact Ex.rf
      · rw [if_neg b2, if_neg (show ¬ cap t ≤ cN C 5 t 3 by omega)]
        by_cases b3 : cF C 3 d 4 = 0
        · rw [if_pos b3, if_neg (fun q => q b3)]
          have hb : Rb n (clo1 C t) (mclo1 M t (cN C 5 t 3)) := by
            unfold clo1 mclo1
            exact add_b (Rb_care (x := 1) (y := 1) h rfl) hn ht rfl (show cN C 5 t 3 < 100 by omega)
          have hs : SL (clo1 C t) (mclo1 M t (cN C 5 t 3)) mm d := by
            unfold clo1 mclo1
            exact SL_put (SL_of hS rfl rfl (fun _ _ => rfl))
          have hx : Ex C (clo1 C t) := by unfold clo1; exact (Ex_F (Or.inl (by decide))).tr (Ex_add (by omega))
          have e2 : mA (mclo1 M t (cN C 5 t 3)) 2 t = nI (cN (clo1 C t) 5 t 3) := (hb.2.2.1 t ht).2.1
          rw [e2]
          refine ⟨Rb_A (by omega) (Rb_N3 hb), ?_, hx.tr Ex_N3, rfl⟩
          unfold SL
          show mA (smA (mclo1 M t (cN C 5 t 3)) 19 mm (nI (cN (clo1 C t) 5 t 3))) 17 mm = nI (cN (sN (clo1 C t) 3 d 8 (cN (clo1 C t) 5 t 3)) 3 d 7) ∧ mA (smA (mclo1 M t (cN C 5 t 3)) 19 mm (nI (cN (clo1 C t) 5 t 3))) 18 mm = 1 ∧ mA (smA (mclo1 M t (cN C 5 t 3)) 19 mm (nI (cN (clo1 C t) 5 t 3))) 19 mm = nI (cN (sN (clo1 C t) 3 d 8 (cN (clo1 C t) 5 t 3)) 3 d 8)
          rw [mA_nj (by decide), mA_nj (by decide), mA_self, cN_sN, if_neg (by omega), cN_sN, if_pos ⟨rfl, rfl, rfl⟩]
          exact ⟨hs.1, hs.2.1, rfl⟩
        · rw [if_neg b3, if_pos b3]; exact ⟨h, hS, Ex.rf, rfl⟩
  · have z0 := Classical.byContradiction z
    rw [mclM_0 (hw.symm.trans z0)]
    unfold endC; rw [if_neg z, if_neg z]
    exact ⟨h, hS, Ex.rf, rfl⟩
theorem briC_x {C : CS} {d t : Nat} : Ex C (briC C d t) := by
  unfold briC bri2 bri1
  exact (((Ex_F (Or.inl (by decide))).tr (Ex_F (Or.inl (by decide)))).tr (Ex_F (Or.inl (by decide)))).tr Ex_M
theorem Rb_wear {n t : Nat} {C : CS} {M : MS} {v w : Int32} (h : Rb n C M) (hz : t < n) (e : v = w) : Rb n (sF C 9 t 5 v) (smA M 4 t w) := by
  subst e
  obtain ⟨gg, gd, gt, gk, gz⟩ := h
  refine ⟨?_, fun d q => Rd_of (gd d q) (fun k => by rw [cF_sF, if_neg (by omega)]) (fun j i _ _ => mA_nj (by omega)), fun t' q => ?_, fun t' a q q2 => Rk_of (gk t' a q q2) rfl (fun _ _ => rfl) (fun j i _ _ => mA_nj (by omega)), Bk_of gz (fun j t' h1 h2 h3 h4 => mA_ni (by omega)) (fun j t' a h1 h2 h3 h4 h5 => mA_nj (by omega))⟩
  · unfold Rg; simp [cF_sF]; exact gg
  · obtain ⟨e1, e2, e3, e4⟩ := gt t' q
    unfold Rt
    by_cases e : t' = t
    · subst e; simp [cF_sF, cN_sF, mA_smA, e1, e2, e3]
    · simp [cF_sF, cN_sF, mA_smA, e, e1, e2, e3, e4]
theorem sF_id {C : CS} {f i k : Nat} {v : Int32} (h : cF C f i k = v) : sF C f i k v = C := by
  refine Prod.ext ?_ rfl
  funext f' i' k'
  show cF (sF C f i k v) f' i' k' = cF C f' i' k'
  rw [cF_sF]
  split
  · rename_i q; rw [q.1, q.2.1, q.2.2, h]
  · rfl
theorem bri_b {n d t mm : Nat} {C : CS} {M : MS} (h : Rb n C M) (hd : d < 3) (ht : t < n) (hp : cN C 3 d 8 < 2 ^ 31) (hS : Sl C M mm d) : Rb n (briC C d t) (munM M mm d t) := by
  have e11 := (h.2.1 d hd).1
  have ew := (h.2.2.1 t ht).2.2.2
  unfold briC bri2 bri1 munM munm mun2
  rcases hS.2 with ⟨z, p0⟩ | ⟨z, p0⟩
  · rw [if_pos z, p0]
    have e1 : (if cF C 3 d 4 = 0 then 0 else 3 * 0) = 0 := by split <;> rfl
    rw [e1]
    have e2 : sF C 1 0 1 (cF C 1 0 1 + nI 0) = C := sF_id (by rw [nI_0]; exact (Int32.add_zero _).symm)
    rw [e2]
    have e3 : sF C 9 t 5 (cF C 9 t 5 + nI 0) = C := sF_id (by rw [nI_0]; exact (Int32.add_zero _).symm)
    rw [e3]
    exact Rb_M (Rb_A (by omega) (Rb_care h hS.1.symm))
  · have hq : mN M 19 mm = cN C 3 d 8 := mN_of p0 hp
    have z18 : ¬ mA M 18 mm = 0 := by rw [z]; decide
    rw [if_neg z18, hq]
    unfold mun1
    have hb1 : Rb n (sF C 1 0 1 (cF C 1 0 1 + nI (if cF C 3 d 4 = 0 then cN C 3 d 8 else 3 * cN C 3 d 8))) (smF M 26 (mF M 26 + nI ((if mA M 11 d = 0 then 1 else 3) * cN C 3 d 8))) := by
      refine Rb_care h ?_
      rw [e11]
      by_cases q : cF C 3 d 4 = 0
      · rw [if_pos q, if_pos q, Nat.one_mul]
      · rw [if_neg q, if_neg q]
    have hb2 := Rb_wear (t := t) hb1 ht (v := cF C 9 t 5 + nI (cN C 3 d 8)) (w := mA M 4 t + nI (cN C 3 d 8)) (by rw [ew])
    exact Rb_M (Rb_A (by omega) (Rb_care hb2 hS.1.symm))
theorem munM_10 {M : MS} {mm d t d' : Nat} : mA (munM M mm d t) 10 d' = if d' = d then 0 else mA M 10 d' := by
  unfold munM munm mun2 mun1
  rw [mA_smA]
  by_cases e : d' = d
  · rw [if_pos ⟨rfl, e⟩, if_pos e]
  · rw [if_neg (fun q => e q.2), if_neg e, mA_smF]
    split
    · rfl
    · rw [mA_nj (by decide)]; rfl
theorem moD_10 {M : MS} {mm t h d d' : Nat} : mA (moD M mm t h d) 10 d' = if d' = d then 1 else mA M 10 d' := by
  have hB : mA (moB M mm t d) 10 d' = if d' = d then 1 else mA M 10 d' := by
    unfold moB
    rw [mA_nj (by decide), mA_smA]
    by_cases e : d' = d
    · rw [if_pos ⟨rfl, e⟩, if_pos e]
    · rw [if_neg (fun q => e q.2), if_neg e, mA_nj (by decide), mo0_A (by decide)]
  unfold moD
  split
  · unfold moE; rw [mA_nj (by decide), mA_nj (by decide), mA_nj (by decide), mA_nj (by decide), mcL_A (Or.inl (by decide)), hB]
  · rw [mcL_A (Or.inl (by decide)), hB]
/-- which drives are taken -/
def Rm (C : CS) (M : MS) : Prop := ∀ d, d < 3 → (mA M 10 d = 0 ↔ cM C d = none)
theorem nd_eq {n t : Nat} {C : CS} {M : MS} (h : Rb n C M) (hm : Rm C M) : mdC M (cN C 9 t 0) = ndC C t := by
  have r : ∀ d, d < 3 → ((mA M 10 d = 0 ∧ mA M 11 d = 0) ↔ rdyP C d) := fun d hd => by
    have a := hm d hd
    have b := (h.2.1 d hd).1
    unfold rdyP
    rw [b, a]
    exact And.comm
  have r0 := r 0 (by decide)
  have r1 := r 1 (by decide)
  have r2 := r 2 (by decide)
  unfold mdC ndC mdL mdL mdL mdL ndL ndL ndL ndL
  unfold mdS ndS
  simp only [r0, r1, r2]
  generalize hg : (fun d => dist (cN C 9 t 0) d) = g
  have g0 : dist (cN C 9 t 0) 0 = g 0 := by rw [← hg]
  have g1 : dist (cN C 9 t 0) 1 = g 1 := by rw [← hg]
  have g2 : dist (cN C 9 t 0) 2 = g 2 := by rw [← hg]
  by_cases e01 : g 0 ≤ g 1 <;> by_cases e02 : g 0 ≤ g 2 <;> by_cases e12 : g 1 ≤ g 2 <;> first
    | (exfalso; omega)
    | (rcases Classical.propComplete (rdyP C 0) with a0 | a0 <;> rcases Classical.propComplete (rdyP C 1) with a1 | a1 <;> rcases Classical.propComplete (rdyP C 2) with a2 | a2 <;> simp only [a0, a1, a2, g0, g1, g2, e01, e02, e12, if_true, if_false])
