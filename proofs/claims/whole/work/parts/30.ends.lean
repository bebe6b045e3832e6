/-! ===== the two sides: a mount's end; the catalogue's changes; copy, lose ===== -/
def set9 (M : MS) (g : Nat → Int32) : MS := (M.1, va_up M.2 9 g)
theorem mA_set9 {M : MS} {g : Nat → Int32} {j i : Nat} : mA (set9 M g) j i = if j = 9 then g i else mA M j i := by
  show (va_up M.2 9 g) j i = _
  unfold va_up mA
  by_cases h : j = 9
  · rw [if_pos h, if_pos h]
  · rw [if_neg h, if_neg h]
theorem mF_set9 {M : MS} {g : Nat → Int32} : mF (set9 M g) = mF M := rfl
theorem MS_ext {M M' : MS} (h1 : ∀ k, mF M k = mF M' k) (h2 : ∀ j i, mA M j i = mA M' j i) : M = M' := Prod.ext (funext h1) (funext (fun j => funext (h2 j)))
theorem set9_id {M : MS} {g : Nat → Int32} (h : ∀ i, mA M 9 i = g i) : set9 M g = M := MS_ext (fun _ => rfl) (fun j i => by
  rw [mA_set9]; split
  · rename_i q; rw [q, h]
  · rfl)
theorem Rb_set9 {n : Nat} {C : CS} {M : MS} {g : Nat → Int32} (h : Rb n C M) : Rb n C (set9 M g) :=
  ⟨h.1, fun d q => Rd_of (h.2.1 d q) (fun _ => rfl) (fun j i _ _ => by rw [mA_set9, if_neg (by omega)]), fun t q => Rt_of (h.2.2.1 t q) rfl rfl (fun _ => rfl) (fun j i _ _ => by rw [mA_set9, if_neg (by omega)]), fun t a q q2 => Rk_of (h.2.2.2.1 t a q q2) rfl (fun _ _ => rfl) (fun j i _ _ => by rw [mA_set9, if_neg (by omega)]), Bk_all h.2.2.2.2 (fun j i _ _ => by rw [mA_set9, if_neg (by omega)])⟩
/-- a mount ends: all but the catalogue's change -/
theorem mount_end {n d t : Nat} {C Cx : CS} {M Z : MS} (h0 : R0 n C M) (hd : d < 3) (ht : t < n) (hb : Rb n Cx Z) (hS : Sl Cx Z 0 d) (hI : Iv Cx) (hH : Hh n Cx) (hx : Ex C Cx) (hp : cN Cx 3 d 8 < 2 ^ 31) (hcM : ∀ d', cM Cx d' = if d' = d then some t else cM C d') (h10 : ∀ d', mA Z 10 d' = if d' = d then 1 else mA M 10 d') (hF : ∀ k, 20 ≤ k → k ≤ 23 → mF Z k = mF M k) : R0 n (briC Cx d t) (set9 (munM Z 0 d t) (mA M 9)) := by
  have hxx : Ex C (briC Cx d t) := hx.tr briC_x
  refine R0_mk h0 (briC_I hI) (fun d' => ?_) (Rb_set9 (bri_b hb hd ht hp hS)) (fun d' hd' => ?_) (fun t' ht' => Rcat_Ex (h0.2.2.2.2.1 t' ht') hxx (fun i => by rw [mA_set9, if_pos rfl])) (Hh_bri hH) hxx.2.2.2.1 (fun f a hf ha => hxx.2.1 f 12 a hf ha) (fun k h1 h2 => ?_) (fun t' nm h1 h2 h3 => by rw [mA_set9, if_pos rfl]; exact h0.2.2.2.2.2.2.2 t' nm h1 h2 h3)
  · rw [briC_M]
    by_cases e : d' = d
    · rw [if_pos e]
    · rw [if_neg e, hcM, if_neg e]; exact h0.2.1 d'
  · rw [mA_set9, if_neg (by decide), munM_10]
    by_cases e : d' = d
    · rw [if_pos e]
    · rw [if_neg e, h10, if_neg e]; exact h0.2.2.2.1 d' hd'
  · rw [mF_set9]
    show mF (munm Z 0 d t _) k = _
    rw [munm_F (by omega)]; exact hF k h1 h2
theorem Hh_name {n t j : Nat} {C : CS} {M : MS} (hH : Hh n C) (ht : t < n) (hc : Rcat C M t) (hj : cB C 11 t j ≠ 0) : ∃ nm, nm < 1000 ∧ cB C 7 t j = nI nm := by
  have lj := hc.lt hj
  obtain ⟨nm, a1, a2⟩ := hH t (Or.inl ht) j (hc.1 j hj).1
  unfold kAt at a2; rw [if_pos lj] at a2
  exact ⟨nm, a1, a2⟩
theorem Rcat_other {C C' : CS} {M M' : MS} {t' : Nat} (h : Rcat C M t') (hN : cN C' 5 t' 3 = cN C 5 t' 3) (hB : ∀ f a, cB C' f t' a = cB C f t' a) (hm : ∀ nm, nm < 1000 → mA M' 9 (1000 * t' + nm) = mA M 9 (1000 * t' + nm)) : Rcat C' M' t' :=
  h.of (fun j => hB 11 j) (by rw [hN]; exact Nat.le_refl _) (fun f a _ _ => hB f a) hm
theorem R0_list {n t h nm : Nat} {C : CS} {M : MS} (h0 : R0 n C M) (hn : n ≤ 12) (ht : t < n) (hnm : nm < 1000) (h6 : kAt C 6 t h = 1) (h7 : kAt C 7 t h = nI nm) (hz : h + zN C t h + 1 < cN C 5 t 3) : R0 n (listC C t h) (smA M 9 (1000 * t + nm) (nI (h + 1))) := by
  obtain ⟨a1, a2, a3, a4, a5, a6, a7, a8⟩ := h0
  have hE : cN C 5 t 3 ≤ 100 := by have := a1.1 t; have := cap_le t; omega
  obtain ⟨c1, _⟩ := cat_list (a5 t ht) hE hnm h6 h7 hz (fun j hj => Hh_name a6 ht (a5 t ht) hj)
  have hb : Rb n (listC C t h) (smA M 9 (1000 * t + nm) (nI (h + 1))) := by
    refine Rb_A (Or.inl rfl) ?_
    unfold listC unl
    split
    · exact Rb_listed (Rb_listed a3)
    · exact Rb_listed a3
  refine ⟨Iv_listC a1, fun d => by rw [listC_F.2]; exact a2 d, hb, fun d hd => by rw [mA_nj (by decide)]; exact a4 d hd, fun t' ht' => ?_, Hh_list a6, Rs_of a7 (by rw [cN_listC]) (fun f a hf _ => by rw [cB_listC, if_neg (by omega)]) (fun _ _ _ => rfl), fun t' nm' h1 h2 h3 => by rw [mA_ni (by omega)]; exact a8 t' nm' h1 h2 h3⟩
  by_cases e : t' = t
  · rw [e]; exact c1
  · exact Rcat_other (a5 t' ht') (by rw [cN_listC]) (fun f a => by rw [cB_listC, if_neg (fun q => e q.2)]) (fun nm' hn' => mA_ni (by omega))
theorem R0_unlist {n t j nm : Nat} {C : CS} {M : MS} (h0 : R0 n C M) (ht : t < n) (hnm : nm < 1000) (hl : lh C t (nI nm) = some j) : R0 n (sB C 11 t j 0) (smA M 9 (1000 * t + nm) 0) := by
  obtain ⟨a1, a2, a3, a4, a5, a6, a7, a8⟩ := h0
  have hE : cN C 5 t 3 ≤ 100 := by have := a1.1 t; have := cap_le t; omega
  refine ⟨Iv_B a1 (by decide), a2, Rb_A (Or.inl rfl) (Rb_listed a3), fun d hd => by rw [mA_nj (by decide)]; exact a4 d hd, fun t' ht' => ?_, Hh_of2 a6 (fun f b a hf => kAt_B11 rfl (by rw [cB_sB, if_neg (by omega)])), Rs_of a7 rfl (fun f a hf _ => by rw [cB_sB, if_neg (by omega)]) (fun _ _ _ => rfl), fun t' nm' h1 h2 h3 => by rw [mA_ni (by omega)]; exact a8 t' nm' h1 h2 h3⟩
  by_cases e : t' = t
  · rw [e]; exact cat_unlist (a5 t ht) hE hnm hl
  · exact Rcat_other (a5 t' ht') rfl (fun f a => by rw [cB_sB, if_neg (fun q => e q.2.2)]) (fun nm' hn' => mA_ni (by omega))
theorem R0_lose {n t : Nat} {C : CS} {M : MS} (h0 : R0 n C M) (ht : t < n) : R0 n (uaL t 100 0 0 C).2 (fgL t 1000 0 0 M).2 ∧ (uaL t 100 0 0 C).1 = (fgL t 1000 0 0 M).1 := by
  obtain ⟨a1, a2, ⟨b1, b2, b3, b4, b5⟩, a4, a5, a6, a7, a8⟩ := h0
  have hE : cN C 5 t 3 ≤ 100 := by have := a1.1 t; have := cap_le t; omega
  obtain ⟨c1, c2⟩ := cat_lose (a5 t ht) hE
  have eF := uaL_F (t := t) 100 0 0 C
  have eN := uaL_N (t := t) 100 0 0 C
  have eB : ∀ f b a, f ≠ 11 ∨ b ≠ t → cB (uaL t 100 0 0 C).2 f b a = cB C f b a := fun f b a h => by rw [uaL_B, if_neg (by omega)]
  refine ⟨⟨uaL_I _ _ _ _ a1, fun d => by rw [eF.2]; exact a2 d, ⟨?_, fun d q => Rd_of (b2 d q) (fun k => by rw [eF.1]) (fun j i _ _ => fgL_A (by omega) _ _ _ _), fun t q => Rt_of (b3 t q) (by rw [eN]) (by rw [eN]) (fun k => by rw [eF.1]) (fun j i _ _ => fgL_A (by omega) _ _ _ _), fun t a q q2 => Rk_of (b4 t a q q2) (by rw [eN]) (fun f _ => eB f _ _ (Or.inl (by omega))) (fun j i _ _ => fgL_A (by omega) _ _ _ _), Bk_all b5 (fun j i _ _ => fgL_A (by omega) _ _ _ _)⟩, fun d hd => by rw [fgL_A (by decide)]; exact a4 d hd, fun t' ht' => ?_, ?_, Rs_of a7 (by rw [eN]) (fun f a hf _ => eB f _ _ (Or.inl (by omega))) (fun _ _ _ => by rw [fgL_F]), fun t' nm h1 h2 h3 => by rw [fgL_9, if_neg (by omega)]; exact a8 t' nm h1 h2 h3⟩, c2⟩
  · unfold Rg; rw [fgL_F, eF.1]; exact b1
  · by_cases e : t' = t
    · rw [e]; exact c1
    · exact Rcat_other (a5 t' ht') (by rw [eN]) (fun f a => eB f _ _ (Or.inr e)) (fun nm hn => by rw [fgL_9, if_neg (by omega)])
  · intro b hb a q
    unfold kAt at q ⊢
    rw [eN, eB 6 _ _ (Or.inl (by decide))] at q
    rw [eN, eB 7 _ _ (Or.inl (by decide))]
    exact a6 b hb a q
/-! the calls -/
theorem Rm_0 {n : Nat} {C : CS} {M : MS} (h : R0 n C M) : Rm C M := fun d hd => ⟨fun _ => h.2.1 d, fun _ => h.2.2.2.1 d hd⟩
theorem Rn {n : Nat} {C : CS} {M : MS} (h : R0 n C M) : mF M 0 = nI n := h.2.2.1.1.1
theorem munM_F {M : MS} {mm d t f : Nat} (h : f ≠ 26) : mF (munM M mm d t) f = mF M f := munm_F h
theorem mcpW_A {M : MS} {d t e0 nm sz j i : Nat} {sd sp : Int32} (h : j ≠ 11 ∧ j ≠ 12 ∧ j ≠ 14 ∧ j ≠ 19) (h2 : (j ≠ 5 ∧ j ≠ 6 ∧ j ≠ 7) ∧ j ≠ 2) : mA (mcpW M d t e0 nm sz sd sp) j i = mA M j i := by
  have e : ∀ (k q1 q2 : Nat) (N : MS), mA (mcpL d t sd sp k q1 q2 N) j i = mA N j i := by
    intro k
    induction k with
    | zero => intro _ _ _; rfl
    | succ k ih => intro q1 q2 N; unfold mcpL; rw [ih, mwr1_A h h2]
  unfold mcpW mcpH
  rw [mwr1_A h h2, e, mwr1_A h h2, mwin_A h.2.2.2]
theorem mcpW_F {M : MS} {d t e0 nm sz f : Nat} {sd sp : Int32} (h : f ≠ 25 ∧ f ≠ 29 ∧ f ≠ 30) : mF (mcpW M d t e0 nm sz sd sp) f = mF M f := by
  have e : ∀ (k q1 q2 : Nat) (N : MS), mF (mcpL d t sd sp k q1 q2 N) f = mF N f := by
    intro k
    induction k with
    | zero => intro _ _ _; rfl
    | succ k ih => intro q1 q2 N; unfold mcpL; rw [ih, mwr1_F h]
  unfold mcpW mcpH
  rw [mwr1_F h, e, mwr1_F h, mwin_F h]
theorem t_copy (l : Launch) (G : GG) (D : CS) {n : Nat} {C : CS} {M : MS} (hR : RR n C M) (hn : n ≤ 12) (x : Int32) : ∃ M', Ct l G yX5_copy cX5_copy 4 (some .int) 3 67 [.ref (zad G 12 0), .int x] D M (some (.int (copT n C x).1)) D M' ∧ RR n (copT n C x).2 M' := by
  obtain ⟨hB, hB30, hB27, hB28⟩ := RR_beg hR
  have hRb := hR.1.2.2.1
  have hM0 : mF M 0 = nI n := Rn hR.1
  unfold copT
  rcases tape_cases hn x with hb | ⟨t, ht, rfl, hb, htx⟩
  · rw [if_pos hb]; exact ⟨M, m_copy_b l G D M hn hM0 hb, hR⟩
  · rw [if_neg hb, htx]
    have he1 : cN C 5 t 3 ≤ 100 := by have := hR.1.1.1 t; have := cap_le t; omega
    have hh32 := hR.1.1.2.2 t
    obtain ⟨r1, r2, _, _⟩ := hRb.2.2.1 t ht
    have hmd : mdC M (cN C 9 t 0) = ndC C t := nd_eq hRb (Rm_0 hR.1)
    rcases hR.1.2.2.2.2.2.2.1 with ⟨s0, s1⟩ | ⟨sz, nm, z1, z30, hnm, q21, q20, hend, h0, h1, h2⟩
    · rw [if_pos s0]; exact ⟨M, m_copy_0 l G D M hn hM0 ht s1, hR⟩
    · rw [if_neg (by omega)]
      cases hN : ndC C t with
      | none =>
        have e1 : copC C t = (-3, C) := by unfold copC; rw [hN]
        have h30 : mF (moN (mbeg M) 0) 30 = -3 := rfl
        have := m_copy_n (nm := nm) l G D M hn hM0 ht z1 z30 q21 r2 r1 hh32 (hmd.trans hN)
        rw [menR_ne h30 (by decide)] at this
        rw [e1]
        exact ⟨_, this, RR_end (w := -3) (R0_moN hB) hB27 hB28 ⟨fun q => absurd q (by decide), fun q => absurd (h30.symm.trans q) (by decide)⟩⟩
      | some d =>
        obtain ⟨hd, hr⟩ := nd_some hN
        have hct := m_copy_s l G D M hn hM0 ht z1 z30 q21 r2 r1 hh32 q20 hnm he1 (hmd.trans hN)
        have e1 : copC C t = copD C d t := by unfold copC; rw [hN]
        rw [e1]
        obtain ⟨Y, hY⟩ : ∃ Y, Y = moD (mbeg M) 0 t (cN C 9 t 0) d := ⟨_, rfl⟩
        obtain ⟨Z, hZ⟩ : ∃ Z, Z = mclM (mcpK (mcpW Y d t (cN C 5 t 3) nm sz (mF M 22) (mF M 23)) t nm (cN C 5 t 3)) 0 d t (cN C 5 t 3) := ⟨_, rfl⟩
        have eD : mcpD M t (cN C 5 t 3) nm sz (mF M 22) (mF M 23) (cN C 9 t 0) d = munM Z 0 d t := by unfold mcpD mcpU; rw [hZ, hY]
        rw [eD] at hct
        obtain ⟨p1, p2, p3, p4, p5, p6, p7, p8, p9, p10⟩ := cop1_b (sd := mF M 22) (sp := mF M 23) hB hB30 hn hd ht hr z1 z30 hnm hend h0 h1 h2 hY hZ
        have hKA : ∀ (N : MS) j i, j ≠ 9 → mA (mcpK N t nm (cN C 5 t 3)) j i = mA N j i := fun N j i hj => by unfold mcpK; split; exact mA_nj hj; rfl
        have hKF : ∀ (N : MS) k, mF (mcpK N t nm (cN C 5 t 3)) k = mF N k := fun N k => by unfold mcpK; split <;> rfl
        have z10 : ∀ d', mA Z 10 d' = if d' = d then 1 else mA (mbeg M) 10 d' := fun d' => by rw [hZ, mclM_A (by omega), hKA _ _ _ (by decide), mcpW_A (by decide) (by decide), hY, moD_10]
        have zF : ∀ k, (k ≠ 25 ∧ k ≠ 29 ∧ k ≠ 30) → k ≠ 26 → mF Z k = mF (mbeg M) k := fun k h1 h2 => by rw [hZ, mclM_F h2, hKF, mcpW_F h1, hY, moD_F h1]
        have hend0 := mount_end hB hd ht p1 p2 p3 p4 p5 p6 p10 z10 (fun k h1 h2 => zF k (by omega) (by omega))
        have u30 : mF (munM Z 0 d t) 30 = mF Z 30 := munM_F (by decide)
        have uF : mF (munM Z 0 d t) 27 = cF C 0 0 5 + 1 ∧ mF (munM Z 0 d t) 28 = cF C 0 0 6 := ⟨by rw [munM_F (by decide), zF 27 (by decide) (by decide)]; exact hB27, by rw [munM_F (by decide), zF 28 (by decide) (by decide)]; exact hB28⟩
        have jx := p5.2.2.2.2.2
        unfold copD
        by_cases zz : mF Z 30 = 0
        · have w0 : (cop1 C d t).1 = nI (cN C 5 t 3) := by rw [p7, if_pos zz]
          have wn : ¬ (cop1 C d t).1 < 0 := by rw [w0]; exact nI_pos (by omega)
          have wc : (cop1 C d t).1.toNatClampNeg = cN C 5 t 3 := by rw [w0]; exact nI_clamp (by omega)
          obtain ⟨f1, f2, f3, f4⟩ := p9 zz
          rw [menR_0 (u30.trans zz), ← w0] at hct
          refine ⟨_, hct, ?_⟩
          show RR n (couC (if (cop1 C d t).1 < 0 then briC (cop1 C d t).2 d t else listC (briC (cop1 C d t).2 d t) t (cop1 C d t).1.toNatClampNeg) (cop1 C d t).1) _
          rw [if_neg wn, wc]
          have hzN : zN (briC (cop1 C d t).2 d t) t (cN C 5 t 3) = sz := by unfold zN; rw [briC_k, f3]; exact nI_clamp (by omega)
          have hl := R0_list (h := cN C 5 t 3) (nm := nm) hend0 hn ht hnm f1 f2 (by rw [hzN]; show _ < cN (cop1 C d t).2 5 t 3; rw [f4]; omega)
          have eM : smA (set9 (munM Z 0 d t) (mA (mbeg M) 9)) 9 (1000 * t + nm) (nI (cN C 5 t 3 + 1)) = munM Z 0 d t := by
            refine MS_ext (fun _ => rfl) (fun j i => ?_)
            rw [mA_smA, mA_set9]
            by_cases e9 : j = 9
            · subst e9
              have zW : mF (mcpW Y d t (cN C 5 t 3) nm sz (mF M 22) (mF M 23)) 30 = 0 := by rw [hZ, mclM_F (by decide), hKF] at zz; exact zz
              rw [munM_A (by decide), hZ, mclM_A (by omega)]
              unfold mcpK
              have e0 : mA (mcpW Y d t (cN C 5 t 3) nm sz (mF M 22) (mF M 23)) 9 i = mA (mbeg M) 9 i := by rw [mcpW_A (by decide) (by decide), hY, moD_A (by decide) (Or.inl (by decide))]
              rw [if_pos zW, mA_smA, e0, if_pos (show (9 : Nat) = 9 from rfl)]
            · rw [if_neg (fun q => e9 q.1), if_neg e9]
          rw [eM] at hl
          have jl : cF (listC (briC (cop1 C d t).2 d t) t (cN C 5 t 3)) = cF (briC (cop1 C d t).2 d t) := listC_F.1
          have jb := (p5.tr (briC_x (d := d) (t := t))).2.2.2.2.2
          exact RR_end hl (by rw [jl, jb.1]; exact uF.1) (by rw [jl, jb.2]; exact uF.2) (by rw [u30]; exact p8)
        · have wn : (cop1 C d t).1 < 0 := by
            refine Int32.not_le.mp (fun q => zz (p8.mp q))
          have w0 : (cop1 C d t).1 = mF Z 30 := by rw [p7, if_neg zz]
          rw [menR_ne u30 zz, ← w0] at hct
          refine ⟨_, hct, ?_⟩
          show RR n (couC (if (cop1 C d t).1 < 0 then briC (cop1 C d t).2 d t else listC (briC (cop1 C d t).2 d t) t (cop1 C d t).1.toNatClampNeg) (cop1 C d t).1) _
          rw [if_pos wn]
          have e9 : set9 (munM Z 0 d t) (mA (mbeg M) 9) = munM Z 0 d t := set9_id (fun i => by
            have zW : ¬ mF (mcpW Y d t (cN C 5 t 3) nm sz (mF M 22) (mF M 23)) 30 = 0 := by rw [hZ, mclM_F (by decide), hKF] at zz; exact zz
            rw [munM_A (by decide), hZ, mclM_A (by omega)]
            unfold mcpK
            rw [if_neg zW, mcpW_A (by decide) (by decide), hY, moD_A (by decide) (Or.inl (by decide))])
          rw [e9] at hend0
          have jb := (p5.tr (briC_x (d := d) (t := t))).2.2.2.2.2
          exact RR_end hend0 (by rw [jb.1]; exact uF.1) (by rw [jb.2]; exact uF.2) (by rw [u30]; exact p8)
