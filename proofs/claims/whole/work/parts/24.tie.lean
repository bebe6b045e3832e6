/-! ===== the two sides: what ties them, step by step ===== -/
def Rg (n : Nat) (C : CS) (M : MS) : Prop := mF M 0 = nI n ∧ mF M 24 = cF C 0 0 7 ∧ mF M 25 = cF C 1 0 0 ∧ mF M 26 = cF C 1 0 1 ∧ mF M 29 = cF C 1 0 2
def Rd (C : CS) (M : MS) (d : Nat) : Prop := mA M 11 d = cF C 3 d 4 ∧ (cF C 3 d 4 = 0 → mA M 12 d = cF C 3 d 5) ∧ mA M 13 d = cF C 3 d 2 ∧ mA M 14 d = cF C 3 d 3
def Rt (C : CS) (M : MS) (t : Nat) : Prop := mA M 1 t = nI (cN C 9 t 0) ∧ mA M 2 t = nI (cN C 5 t 3) ∧ mA M 3 t = cF C 9 t 4 ∧ mA M 4 t = cF C 9 t 5
def Rk (C : CS) (M : MS) (t a : Nat) : Prop := mA M 5 (100 * t + a) = kAt C 6 t a ∧ mA M 6 (100 * t + a) = kAt C 7 t a ∧ mA M 7 (100 * t + a) = kAt C 8 t a ∧ (mA M 8 (100 * t + a) = 0 ↔ cB C 10 t a = 0)
/-- the rows of tapes that there are not yet are blank -/
def Bk (n : Nat) (M : MS) : Prop := ∀ t, n ≤ t → t < 12 → (mA M 2 t = 0 ∧ mA M 3 t = 0 ∧ mA M 4 t = 0) ∧ ∀ a, a < 100 → mA M 5 (100 * t + a) = 0 ∧ mA M 6 (100 * t + a) = 0 ∧ mA M 7 (100 * t + a) = 0 ∧ mA M 8 (100 * t + a) = 0
theorem Bk_of {n : Nat} {M M' : MS} (h : Bk n M) (hm : ∀ j t, n ≤ t → t < 12 → 2 ≤ j → j ≤ 4 → mA M' j t = mA M j t) (hm2 : ∀ j t a, n ≤ t → t < 12 → a < 100 → 5 ≤ j → j ≤ 8 → mA M' j (100 * t + a) = mA M j (100 * t + a)) : Bk n M' := fun t h1 h2 => by
  rw [hm 2 t h1 h2 (by decide) (by decide), hm 3 t h1 h2 (by decide) (by decide), hm 4 t h1 h2 (by decide) (by decide)]
  refine ⟨(h t h1 h2).1, fun a ha => ?_⟩
  rw [hm2 5 t a h1 h2 ha (by decide) (by decide), hm2 6 t a h1 h2 ha (by decide) (by decide), hm2 7 t a h1 h2 ha (by decide) (by decide), hm2 8 t a h1 h2 ha (by decide) (by decide)]
  exact (h t h1 h2).2 a ha
theorem Bk_all {n : Nat} {M M' : MS} (h : Bk n M) (hm : ∀ j i, 2 ≤ j → j ≤ 8 → mA M' j i = mA M j i) : Bk n M' := Bk_of h (fun j t _ _ h1 h2 => hm j t h1 (by omega)) (fun j t a _ _ _ h1 h2 => hm j _ (by omega) h2)
def Rb (n : Nat) (C : CS) (M : MS) : Prop := Rg n C M ∧ (∀ d, d < 3 → Rd C M d) ∧ (∀ t, t < n → Rt C M t) ∧ (∀ t a, t < n → a < 100 → Rk C M t a) ∧ Bk n M
theorem Rd_of {C C' : CS} {M M' : MS} {d : Nat} (h : Rd C M d) (hF : ∀ k, cF C' 3 d k = cF C 3 d k) (hm : ∀ j i, 11 ≤ j → j ≤ 14 → mA M' j i = mA M j i) : Rd C' M' d := by
  unfold Rd
  rw [hF, hF, hF, hF, hm 11 _ (by decide) (by decide), hm 12 _ (by decide) (by decide), hm 13 _ (by decide) (by decide), hm 14 _ (by decide) (by decide)]
  exact h
theorem Rt_of {C C' : CS} {M M' : MS} {t : Nat} (h : Rt C M t) (h9 : cN C' 9 t 0 = cN C 9 t 0) (h5 : cN C' 5 t 3 = cN C 5 t 3) (hF : ∀ k, cF C' 9 t k = cF C 9 t k) (hm : ∀ j i, 1 ≤ j → j ≤ 4 → mA M' j i = mA M j i) : Rt C' M' t := by
  unfold Rt
  rw [h9, h5, hF, hF, hm 1 _ (by decide) (by decide), hm 2 _ (by decide) (by decide), hm 3 _ (by decide) (by decide), hm 4 _ (by decide) (by decide)]
  exact h
theorem Rk_of {C C' : CS} {M M' : MS} {t a : Nat} (h : Rk C M t a) (hN : cN C' 5 t 3 = cN C 5 t 3) (hB : ∀ f, f ≤ 10 → cB C' f t a = cB C f t a) (hm : ∀ j i, 5 ≤ j → j ≤ 8 → mA M' j i = mA M j i) : Rk C' M' t a := by
  unfold Rk kAt
  rw [hN, hB 6 (by decide), hB 7 (by decide), hB 8 (by decide), hB 10 (by decide), hm 5 _ (by decide) (by decide), hm 6 _ (by decide) (by decide), hm 7 _ (by decide) (by decide), hm 8 _ (by decide) (by decide)]
  exact h
theorem Rb_N3 {n : Nat} {C : CS} {M : MS} {d k v : Nat} (h : Rb n C M) : Rb n (sN C 3 d k v) M :=
  ⟨h.1, h.2.1, fun t q => Rt_of (h.2.2.1 t q) (by rw [cN_sN, if_neg (by omega)]) (by rw [cN_sN, if_neg (by omega)]) (fun _ => rfl) (fun _ _ _ _ => rfl), fun t a q q2 => Rk_of (h.2.2.2.1 t a q q2) (by rw [cN_sN, if_neg (by omega)]) (fun _ _ => rfl) (fun _ _ _ _ => rfl), h.2.2.2.2⟩
theorem Rb_M {n : Nat} {C : CS} {M : MS} {d : Nat} {v : Option Nat} (h : Rb n C M) : Rb n (sM C d v) M := h
theorem Rb_A {n : Nat} {C : CS} {M : MS} {j i : Nat} {v : Int32} (hj : j = 9 ∨ j = 10 ∨ 15 ≤ j) (h : Rb n C M) : Rb n C (smA M j i v) :=
  ⟨h.1, fun d q => Rd_of (h.2.1 d q) (fun _ => rfl) (fun j' i' _ _ => mA_nj (by omega)), fun t q => Rt_of (h.2.2.1 t q) rfl rfl (fun _ => rfl) (fun j' i' _ _ => mA_nj (by omega)), fun t a q q2 => Rk_of (h.2.2.2.1 t a q q2) rfl (fun _ _ => rfl) (fun j' i' _ _ => mA_nj (by omega)), Bk_all h.2.2.2.2 (fun j' i' _ _ => mA_nj (by omega))⟩
theorem Rb_F {n : Nat} {C : CS} {M : MS} {k : Nat} {v : Int32} (hk : k ≠ 0 ∧ k ≠ 24 ∧ k ≠ 25 ∧ k ≠ 26 ∧ k ≠ 29) (h : Rb n C M) : Rb n C (smF M k v) := by
  refine ⟨?_, h.2.1, h.2.2.1, h.2.2.2⟩
  unfold Rg
  rw [mF_smF, if_neg (by omega), mF_smF, if_neg (by omega), mF_smF, if_neg (by omega), mF_smF, if_neg (by omega), mF_smF, if_neg (by omega)]
  exact h.1
theorem Rb_listed {n : Nat} {C : CS} {M : MS} {t j : Nat} {v : Int32} (h : Rb n C M) : Rb n (sB C 11 t j v) M :=
  ⟨h.1, h.2.1, h.2.2.1, fun t a q q2 => Rk_of (h.2.2.2.1 t a q q2) rfl (fun f hf => by rw [cB_sB, if_neg (by omega)]) (fun _ _ _ _ => rfl), h.2.2.2.2⟩
/-! a work step -/
theorem wk_b {n : Nat} {C : CS} {M : MS} (h : Rb n C M) : Rb n (wkC C) (mwM M) := by
  obtain ⟨⟨g0, g1, g2, g3, g4⟩, hd, ht, hk, hz⟩ := h
  refine ⟨?_, fun d q => Rd_of (hd d q) (fun k => wkC_F C 3 d k (by decide)) (fun j i _ _ => by rw [mwM_A]), fun t q => Rt_of (ht t q) (by rw [wkC_N]) (by rw [wkC_N]) (fun k => wkC_F C 9 t k (by decide)) (fun j i _ _ => by rw [mwM_A]), fun t a q1 q2 => Rk_of (hk t a q1 q2) (by rw [wkC_N]) (fun f _ => by rw [wkC_B]) (fun j i _ _ => by rw [mwM_A]), Bk_all hz (fun j i _ _ => by rw [mwM_A])⟩
  unfold Rg wkC mwM
  by_cases p0 : cF C 1 0 2 = 0
  · rw [if_pos p0, if_pos (g4.trans p0)]
    simp [cF_sF, mF_smF, g0, g1, g2, g3]
  · rw [if_neg p0, if_neg (by rw [g4]; exact p0)]
    by_cases p1 : cF C 1 0 2 ≤ 0
    · rw [if_pos p1, g4, if_pos p1]
      simp [cF_sF, mF_smF, g0, g1, g2, g3]
    · rw [if_neg p1, g4, if_neg p1]
      simp [cF_sF, mF_smF, g0, g1, g2, g3]
theorem Rb_pw {n : Nat} {C : CS} {M : MS} (h : Rb n C M) : mF M 29 = cF C 1 0 2 := h.1.2.2.2.2
/-! what stands in a drive -/
/-- slot mm of the reference is drive d of the class: carried; and where it stands, if it stands -/
def Sl (C : CS) (M : MS) (mm d : Nat) : Prop := mA M 17 mm = nI (cN C 3 d 7) ∧ ((mA M 18 mm = 0 ∧ cN C 3 d 8 = 0) ∨ (mA M 18 mm = 1 ∧ mA M 19 mm = nI (cN C 3 d 8)))
def SL (C : CS) (M : MS) (mm d : Nat) : Prop := mA M 17 mm = nI (cN C 3 d 7) ∧ mA M 18 mm = 1 ∧ mA M 19 mm = nI (cN C 3 d 8)
theorem SL.sl {C : CS} {M : MS} {mm d : Nat} (h : SL C M mm d) : Sl C M mm d := ⟨h.1, Or.inr h.2⟩
theorem SL_of {C C' : CS} {M M' : MS} {mm d : Nat} (h : SL C M mm d) (h7 : cN C' 3 d 7 = cN C 3 d 7) (h8 : cN C' 3 d 8 = cN C 3 d 8) (hm : ∀ j, 15 ≤ j → mA M' j mm = mA M j mm) : SL C' M' mm d := by
  unfold SL; rw [h7, h8, hm _ (by decide), hm _ (by decide), hm _ (by decide)]; exact h
theorem Sl_of {C C' : CS} {M M' : MS} {mm d : Nat} (h : Sl C M mm d) (h7 : cN C' 3 d 7 = cN C 3 d 7) (h8 : cN C' 3 d 8 = cN C 3 d 8) (hm : ∀ j, 15 ≤ j → mA M' j mm = mA M j mm) : Sl C' M' mm d := by
  unfold Sl; rw [h7, h8, hm _ (by decide), hm _ (by decide), hm _ (by decide)]; exact h
/-! what grows: blocks stay, more may come; the catalogue, homes, jobs stay -/
def Ex (C C' : CS) : Prop := (∀ b, cN C 5 b 3 ≤ cN C' 5 b 3) ∧ (∀ f b a, f ≤ 8 → a < cN C 5 b 3 → cB C' f b a = cB C f b a) ∧ (∀ f b a, 10 ≤ f → cB C' f b a = cB C f b a) ∧ cN C' 5 12 3 = cN C 5 12 3 ∧ (∀ t, cN C' 9 t 0 = cN C 9 t 0) ∧ (cF C' 0 0 5 = cF C 0 0 5 ∧ cF C' 0 0 6 = cF C 0 0 6)
theorem Ex.rf {C : CS} : Ex C C := ⟨fun _ => Nat.le_refl _, fun _ _ _ _ _ => rfl, fun _ _ _ _ => rfl, rfl, fun _ => rfl, rfl, rfl⟩
theorem Ex.tr {C C1 C2 : CS} (a : Ex C C1) (b : Ex C1 C2) : Ex C C2 :=
  ⟨fun q => Nat.le_trans (a.1 q) (b.1 q), fun f q i h h2 => (b.2.1 f q i h (Nat.lt_of_lt_of_le h2 (a.1 q))).trans (a.2.1 f q i h h2), fun f q i h => (b.2.2.1 f q i h).trans (a.2.2.1 f q i h), b.2.2.2.1.trans a.2.2.2.1, fun t => (b.2.2.2.2.1 t).trans (a.2.2.2.2.1 t), b.2.2.2.2.2.1.trans a.2.2.2.2.2.1, b.2.2.2.2.2.2.trans a.2.2.2.2.2.2⟩
theorem Ex_Sm {C C' : CS} (hN : ∀ f i k, f ≠ 3 → cN C' f i k = cN C f i k) (hB : cB C' = cB C) (hF : cF C' 0 0 5 = cF C 0 0 5 ∧ cF C' 0 0 6 = cF C 0 0 6) : Ex C C' :=
  ⟨fun b => by rw [hN 5 b 3 (by decide)]; exact Nat.le_refl _, fun _ _ _ _ _ => by rw [hB], fun _ _ _ _ => by rw [hB], hN 5 12 3 (by decide), fun t => hN 9 t 0 (by decide), hF⟩
theorem Ex_wk {C : CS} : Ex C (wkC C) := Ex_Sm (fun _ _ _ _ => by rw [wkC_N]) (wkC_B C) ⟨wkC_F C 0 0 5 (by decide), wkC_F C 0 0 6 (by decide)⟩
theorem Ex_N3 {C : CS} {d k v : Nat} : Ex C (sN C 3 d k v) := Ex_Sm (fun f i k' h => by rw [cN_sN, if_neg (by omega)]) rfl ⟨rfl, rfl⟩
theorem Ex_F {C : CS} {f i k : Nat} {v : Int32} (h : f ≠ 0 ∨ (k ≠ 5 ∧ k ≠ 6)) : Ex C (sF C f i k v) := Ex_Sm (fun _ _ _ _ => rfl) rfl ⟨by rw [cF_sF, if_neg (by omega)], by rw [cF_sF, if_neg (by omega)]⟩
theorem Ex_M {C : CS} {d : Nat} {v : Option Nat} : Ex C (sM C d v) := Ex_Sm (fun _ _ _ _ => rfl) rfl ⟨rfl, rfl⟩
/-! carrying -/
theorem carL_b {n d mm : Nat} : ∀ (k c : Nat) (C : CS) (M : MS), Rb n C M → mF M 30 = 0 → cN C 3 d 7 = c → mA M 17 mm = nI c → Rb n (carL d k C).2 (mcL mm k c M) ∧ (carL d k C).1 = mF (mcL mm k c M) 30 ∧ mA (mcL mm k c M) 17 mm = nI (cN (carL d k C).2 3 d 7) ∧ Ex C (carL d k C).2 := by
  intro k
  induction k with
  | zero => intro c C M h h0 hc hm; exact ⟨h, h0.symm, by rw [hc.symm] at hm; exact hm, Ex.rf⟩
  | succ k ih =>
    intro c C M h h0 hc hm
    unfold carL mcL
    rw [Rb_pw h]
    by_cases hp : cF C 1 0 2 ≠ 0
    · rw [if_pos hp, if_pos hp]
      have e1 : cN (wkC C) 3 d 7 + 1 = c + 1 := by rw [wkC_N, hc]
      rw [e1]
      have := ih (c + 1) (sN (wkC C) 3 d 7 (c + 1)) (smA (mwM M) 17 mm (nI (c + 1))) (Rb_A (by omega) (Rb_N3 (wk_b h))) (mwM_w h0 (by rw [Rb_pw h]; exact hp)) (by rw [cN_sN, if_pos ⟨rfl, rfl, rfl⟩]) mA_self
      exact ⟨this.1, this.2.1, this.2.2.1, (Ex_wk.tr Ex_N3).tr this.2.2.2⟩
    · rw [if_neg hp, if_neg hp]
      refine ⟨wk_b h, ?_, ?_, Ex_wk⟩
      · exact (mwM_c (by rw [Rb_pw h]; exact hp)).symm
      · show mA (mwM M) 17 mm = nI (cN (wkC C) 3 d 7)
        rw [mwM_A, wkC_N, hc]; exact hm
theorem carL_8 {d : Nat} (k : Nat) (C : CS) : cN (carL d k C).2 3 d 8 = cN C 3 d 8 := carL_N3 d 8 (Or.inr (by decide)) k C
theorem car_b {n d mm t : Nat} {C : CS} {M : MS} (h : Rb n C M) (h0 : mF M 30 = 0) (hd : d < 3) (ht : t < n) :
    Rb n (carC C d t).2 (moD M mm t (cN C 9 t 0) d) ∧ (carC C d t).1 = mF (moD M mm t (cN C 9 t 0) d) 30 ∧ Sl (carC C d t).2 (moD M mm t (cN C 9 t 0) d) mm d ∧ ((carC C d t).1 = 0 → SL (carC C d t).2 (moD M mm t (cN C 9 t 0) d) mm d) ∧ Ex C (carC C d t).2 := by
  have hb0 : Rb n (sN (sN (sM C d (some t)) 3 d 8 0) 3 d 7 0) (moB M mm t d) := by
    unfold moB mo0
    exact Rb_N3 (Rb_N3 (Rb_M (Rb_A (by omega) (Rb_A (by omega) (Rb_A (by omega) (Rb_A (by omega) (Rb_A (by omega) (Rb_A (by omega) h))))))))
  have hm17 : mA (moB M mm t d) 17 mm = nI 0 := by
    unfold moB mo0
    rw [mA_nj (by decide), mA_nj (by decide), mA_nj (by decide), mA_self]; rfl
  obtain ⟨b1, b2, b3, b4⟩ := carL_b (d := d) (mm := mm) (dist (cN C 9 t 0) d) 0 _ _ hb0 (show mF M 30 = 0 from h0) (by rw [cN_sN, if_pos ⟨rfl, rfl, rfl⟩]) hm17
  have c8 : cN (carL d (dist (cN C 9 t 0) d) (sN (sN (sM C d (some t)) 3 d 8 0) 3 d 7 0)).2 3 d 8 = 0 := by
    rw [carL_8, cN_sN, if_neg (by omega), cN_sN, if_pos ⟨rfl, rfl, rfl⟩]
  have hm18 : mA (mcL mm (dist (cN C 9 t 0) d) 0 (moB M mm t d)) 18 mm = 0 := by rw [mcL_A (Or.inl (by decide)), moB_18]
  have hx : Ex C (carL d (dist (cN C 9 t 0) d) (sN (sN (sM C d (some t)) 3 d 8 0) 3 d 7 0)).2 := (Ex_M.tr (Ex_N3.tr Ex_N3)).tr b4
  unfold carC moD carE
  generalize carL d (dist (cN C 9 t 0) d) (sN (sN (sM C d (some t)) 3 d 8 0) 3 d 7 0) = X at b1 b2 b3 c8 hx ⊢
  generalize mcL mm (dist (cN C 9 t 0) d) 0 (moB M mm t d) = Y at b1 b2 b3 hm18 ⊢
  by_cases z : X.1 = 0
  · rw [if_pos z, if_pos (by rw [← b2]; exact z)]
    have hS : SL (sF (sF X.2 3 d 2 (cF X.2 3 d 2 + 1)) 9 t 4 (cF X.2 9 t 4 + 1)) (moE Y mm d t) mm d := by
      unfold SL moE
      refine ⟨?_, ?_, ?_⟩
      · rw [mA_nj (by decide), mA_nj (by decide), mA_nj (by decide), mA_nj (by decide)]; exact b3
      · rw [mA_nj (by decide), mA_self]
      · rw [mA_self]; show (0 : Int32) = nI (cN X.2 3 d 8); rw [c8]; rfl
    refine ⟨?_, ?_, hS.sl, fun _ => hS, hx.tr ((Ex_F (Or.inl (by decide))).tr (Ex_F (Or.inl (by decide))))⟩
    · obtain ⟨gg, gd, gt, gk, gz⟩ := b1
      refine ⟨gg, fun d' q => ?_, fun t' q => ?_, fun t' a q q2 => ?_, Bk_of gz (fun j t' h1 h2 h3 h4 => by unfold moE; rw [mA_nj (by omega), mA_nj (by omega), mA_ni (by omega), mA_nj (by omega)]) (fun j t' a h1 h2 h3 h4 h5 => by unfold moE; rw [mA_nj (by omega), mA_nj (by omega), mA_nj (by omega), mA_nj (by omega)])⟩
      · obtain ⟨e1, e2, e3, e4⟩ := gd d' q
        unfold Rd moE
        by_cases e : d' = d
        · subst e; simp [cF_sF, mA_smA, e1, e3, e4]; exact e2
        · simp [cF_sF, mA_smA, e, e1, e3, e4]; exact e2
      · obtain ⟨e1, e2, e3, e4⟩ := gt t' q
        unfold Rt moE
        by_cases e : t' = t
        · subst e; simp [cF_sF, cN_sF, mA_smA, e1, e2, e3, e4]
        · simp [cF_sF, cN_sF, mA_smA, e, e1, e2, e3, e4]
      · exact Rk_of (gk t' a q q2) rfl (fun _ _ => rfl) (fun j i _ _ => by unfold moE; rw [mA_nj (by omega), mA_nj (by omega), mA_nj (by omega), mA_nj (by omega)])
    · show (0 : Int32) = mF Y 30; rw [← b2, z]
  · rw [if_neg z, if_neg (by rw [← b2]; exact z)]
    exact ⟨b1, b2, ⟨b3, Or.inl ⟨hm18, c8⟩⟩, fun q => absurd q z, hx⟩
/-! winding -/
theorem wind_b {n d mm : Nat} : ∀ (k q : Nat) (C : CS) (M : MS), Rb n C M → mF M 30 = 0 → cN C 3 d 8 = q → SL C M mm d → Rb n (windL d k C).2 (mwL mm k q M) ∧ (windL d k C).1 = mF (mwL mm k q M) 30 ∧ SL (windL d k C).2 (mwL mm k q M) mm d ∧ Ex C (windL d k C).2 := by
  intro k
  induction k with
  | zero => intro q C M h h0 hq hS; exact ⟨h, h0.symm, hS, Ex.rf⟩
  | succ k ih =>
    intro q C M h h0 hq hS
    unfold windL mwL
    rw [Rb_pw h]
    by_cases hp : cF C 1 0 2 ≠ 0
    · rw [if_pos hp, if_pos hp]
      have e1 : cN (wkC C) 3 d 8 + 1 = q + 1 := by rw [wkC_N, hq]
      rw [e1]
      have hS2 : SL (sN (wkC C) 3 d 8 (q + 1)) (smA (mwM M) 19 mm (nI (q + 1))) mm d := by
        unfold SL
        rw [mA_nj (by decide), mA_nj (by decide), mA_self, mwM_A, cN_sN, if_neg (by omega), cN_sN, if_pos ⟨rfl, rfl, rfl⟩, wkC_N]
        exact ⟨hS.1, hS.2.1, rfl⟩
      have := ih (q + 1) _ _ (Rb_A (j := 19) (i := mm) (v := nI (q + 1)) (by omega) (Rb_N3 (wk_b h))) (mwM_w h0 (by rw [Rb_pw h]; exact hp)) (by rw [cN_sN, if_pos ⟨rfl, rfl, rfl⟩]) hS2
      exact ⟨this.1, this.2.1, this.2.2.1, (Ex_wk.tr Ex_N3).tr this.2.2.2⟩
    · rw [if_neg hp, if_neg hp]
      refine ⟨wk_b h, (mwM_c (by rw [Rb_pw h]; exact hp)).symm, ?_, Ex_wk⟩
      exact SL_of hS (by rw [wkC_N]) (by rw [wkC_N]) (fun j _ => by rw [mwM_A])
/-! a block is passed -/
theorem pas_b {n d mm q : Nat} {C : CS} {M : MS} (h : Rb n C M) (h0 : mF M 30 = 0) (hd : d < 3) (hj : cF C 3 d 4 = 0) (hq : cN C 3 d 8 = q) (hS : SL C M mm d) :
    Rb n (pasC C d).2 (mpas0 M mm d q) ∧ (pasC C d).1 = mF (mpas0 M mm d q) 30 ∧ SL (pasC C d).2 (mpas0 M mm d q) mm d ∧ Ex C (pasC C d).2 ∧ ((pasC C d).1 = 0 → cF (pasC C d).2 3 d 4 = 0 ∧ cN (pasC C d).2 3 d 8 = q + 1) := by
  have hw := mpas0_w (mm := mm) (d := d) (q := q) h0
  have hj2 := (h.2.1 d hd).2.1 hj
  unfold pasC mpas0
  unfold mpas0 at hw
  rw [hj2, Rb_pw h] at hw ⊢
  by_cases z : cF C 3 d 5 = 0
  · rw [if_pos z] at hw ⊢
    rw [if_neg (fun q => q z)]
    obtain ⟨gg, gd, gt, gk, gz⟩ := h
    refine ⟨⟨?_, fun d' q => ?_, fun t q => ?_, fun t a q q2 => ?_, Bk_all gz (fun j i _ _ => by unfold mpJ; rw [mA_smF, mA_nj (by omega), mA_nj (by omega)])⟩, ?_, ?_, Ex_F (Or.inl (by decide)), fun q => absurd q (show ¬ ((-5 : Int32) = 0) by decide)⟩
    · unfold Rg mpJ; simp [cF_sF, mF_smF, mF_smA]; exact gg
    · obtain ⟨e1, e2, e3, e4⟩ := gd d' q
      unfold Rd mpJ
      by_cases e : d' = d
      · subst e; simp [cF_sF, mA_smA, mA_smF, e3, e4]
      · simp [cF_sF, mA_smA, mA_smF, e, e1, e3, e4]; exact e2
    · exact Rt_of (gt t q) rfl rfl (fun k => by rw [cF_sF, if_neg (by omega)]) (fun j i _ _ => by unfold mpJ; rw [mA_smF, mA_nj (by omega), mA_nj (by omega)])
    · exact Rk_of (gk t a q q2) rfl (fun _ _ => rfl) (fun j i _ _ => by unfold mpJ; rw [mA_smF, mA_nj (by omega), mA_nj (by omega)])
    · rfl
    · exact SL_of hS rfl rfl (fun j _ => by unfold mpJ; rw [mA_smF, mA_nj (by omega), mA_nj (by omega)])
  · rw [if_neg z] at hw ⊢
    rw [if_pos z]
    by_cases p : cF C 1 0 2 ≠ 0
    · rw [if_pos p] at hw ⊢
      rw [if_pos p]
      have hb := wk_b h
      have hjw : cF (wkC C) 3 d 4 = 0 := by rw [wkC_F C 3 d 4 (by decide)]; exact hj
      have hqw : cN (wkC C) 3 d 8 = q := by rw [wkC_N]; exact hq
      have hS1 : SL (wkC C) (mwM M) mm d := SL_of hS (by rw [wkC_N]) (by rw [wkC_N]) (fun j _ => by rw [mwM_A])
      have hx := Ex_wk (C := C)
      generalize wkC C = X at hb hjw hqw hS1 hx ⊢
      generalize mwM M = Y at hb hw hS1 ⊢
      obtain ⟨gg, gd, gt, gk, gz⟩ := hb
      have hxp : Ex X (pas2 X d) := by
        unfold pas2 pas1; split
        · exact (Ex_F (Or.inl (by decide))).tr Ex_N3
        · exact (Ex_F (Or.inl (by decide))).tr ((Ex_F (Or.inl (by decide))).tr Ex_N3)
      have hp1 : ∀ f i k, f ≠ 3 → cF (pas2 X d) f i k = cF X f i k := by
        intro f i k hf
        unfold pas2 pas1; split
        · rw [cF_sN, cF_sF, if_neg (by omega)]
        · rw [cF_sN, cF_sF, if_neg (by omega), cF_sF, if_neg (by omega)]
      have hpN : ∀ f i k, (f ≠ 3 ∨ k ≠ 8 ∨ i ≠ d) → cN (pas2 X d) f i k = cN X f i k := by
        intro f i k hf
        unfold pas2; rw [cN_sN, if_neg (by omega), cN_sF, pas1_N]
      have hp8 : cN (pas2 X d) 3 d 8 = q + 1 := by unfold pas2; rw [cN_sN, if_pos ⟨rfl, rfl, rfl⟩, pas1_N, hqw]
      have hp4 : cF (pas2 X d) 3 d 4 = 0 := by
        unfold pas2 pas1; split
        · rw [cF_sN, cF_sF, if_neg (by omega)]; exact hjw
        · rw [cF_sN, cF_sF, if_neg (by omega), cF_sF, if_neg (by omega)]; exact hjw
      have hpB : cB (pas2 X d) = cB X := by unfold pas2; rw [cB_sN, cB_sF, pas1_B]
      refine ⟨⟨?_, fun d' q' => ?_, fun t q' => ?_, fun t a q' q2 => ?_, Bk_all gz (fun j i _ _ => by unfold mp2; rw [mA_nj (by omega), mA_nj (by omega), mA_nj (by omega)])⟩, (hw.trans (by rw [if_neg z, if_pos p])).symm, ?_, hx.tr hxp, fun _ => ⟨hp4, hp8⟩⟩
      · unfold Rg
        rw [hp1 _ _ _ (by decide), hp1 _ _ _ (by decide), hp1 _ _ _ (by decide), hp1 _ _ _ (by decide)]
        exact gg
      · obtain ⟨e1, e2, e3, e4⟩ := gd d' q'
        unfold Rd mp2 pas2 pas1
        by_cases e : d' = d
        · subst e
          have e2 := e2 hjw
          by_cases le : cF X 3 d' 5 ≤ 0
          · rw [if_pos le, e2, if_pos le]; simp [cF_sF, cF_sN, mA_smA, e1, e3, e4, hjw]
          · rw [if_neg le, e2, if_neg le]; simp [cF_sF, cF_sN, mA_smA, e1, e3, e4, hjw]
        · by_cases le : cF X 3 d 5 ≤ 0
          · rw [if_pos le]; simp [cF_sF, cF_sN, mA_smA, e, e1, e3, e4]; exact e2
          · rw [if_neg le]; simp [cF_sF, cF_sN, mA_smA, e, e1, e3, e4]; exact e2
      · exact Rt_of (gt t q') (hpN _ _ _ (by omega)) (hpN _ _ _ (by omega)) (fun k => hp1 _ _ _ (by decide)) (fun j i _ _ => by unfold mp2; rw [mA_nj (by omega), mA_nj (by omega), mA_nj (by omega)])
      · exact Rk_of (gk t a q' q2) (hpN _ _ _ (by omega)) (fun f _ => by rw [hpB]) (fun j i _ _ => by unfold mp2; rw [mA_nj (by omega), mA_nj (by omega), mA_nj (by omega)])
      · unfold SL mp2
        rw [hpN _ _ _ (by omega), hp8, mA_nj (by decide), mA_nj (by decide), mA_nj (by decide), mA_nj (by decide), mA_nj (by decide), mA_nj (by decide), mA_self]
        exact ⟨hS1.1, hS1.2.1, rfl⟩
    · rw [if_neg p] at hw ⊢
      rw [if_neg p]
      refine ⟨wk_b h, (hw.trans (by rw [if_neg z, if_neg p])).symm, SL_of hS (by rw [wkC_N]) (by rw [wkC_N]) (fun j _ => by rw [mwM_A]), Ex_wk, fun q => absurd q (show ¬ ((-4 : Int32) = 0) by decide)⟩
