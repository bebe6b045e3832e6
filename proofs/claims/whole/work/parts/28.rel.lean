/-! ===== the two sides: the relation between calls; copy ===== -/
theorem Hh_of {n : Nat} {C C' : CS} (h : Hh n C) (e : ∀ f b a, kAt C' f b a = kAt C f b a) : Hh n C' := fun b hb a q => by
  rw [e] at q; rw [e]; exact h b hb a q
theorem Hh_of2 {n : Nat} {C C' : CS} (h : Hh n C) (e : ∀ f b a, f ≤ 10 → kAt C' f b a = kAt C f b a) : Hh n C' := fun b hb a q => by
  rw [e 6 _ _ (by decide)] at q; rw [e 7 _ _ (by decide)]; exact h b hb a q
theorem Hh_Sm {n : Nat} {C C' : CS} (h : Hh n C) (s : Sm C C') : Hh n C' := Hh_of h (fun f b a => s.k f b a)
theorem Hh_add {n t : Nat} {C : CS} {k v z : Int32} (h : Hh n C) (hk : k = 1 → ∃ nm, nm < 1000 ∧ v = nI nm) : Hh n (addC C t k v z) := by
  by_cases hc : cN C 5 t 3 < cap t
  · intro b hb a q
    rw [kAt_add (by decide) hc] at q ⊢
    by_cases e : b = t ∧ a = cN C 5 t 3
    · rw [if_pos e, if_pos rfl] at q
      rw [if_pos e]
      exact hk q
    · rw [if_neg e] at q ⊢
      exact h b hb a q
  · unfold addC; rw [if_pos (by omega)]; exact h
theorem Hh_wri {n d t b a : Nat} {C : CS} (h : Hh n C) (hb : isB n b) : Hh n (wriC C d t b a).2 := by
  have hp : Hh n (pasC C d).2 := Hh_Sm h Sm_pas
  unfold wriC; split
  · exact h
  · split
    · exact hp
    · exact Hh_add hp (fun q => hp b hb a q)
theorem Hh_end {n d t b : Nat} {C : CS} {w : Int32} (h : Hh n C) : Hh n (endC C d t b w).2 := by
  have hc : Hh n (cloC C d t) := by
    unfold cloC; split
    · exact h
    · split
      · exact h
      · have h1 : Hh n (clo1 C t) := Hh_add (Hh_of h (fun _ _ _ => rfl)) (fun q => absurd q (by decide))
        exact Hh_Sm h1 Sm_N
  unfold endC; split
  · show Hh n (if cN C 5 t 3 ≤ b then C else cloC C d t)
    split
    · exact h
    · exact hc
  · exact h
theorem briC_k {C : CS} {d t f b a : Nat} : kAt (briC C d t) f b a = kAt C f b a := rfl
theorem Hh_bri {n d t : Nat} {C : CS} (h : Hh n C) : Hh n (briC C d t) := Hh_of h (fun _ _ _ => rfl)
theorem Hh_list {n t j : Nat} {C : CS} (h : Hh n C) : Hh n (listC C t j) := fun b hb a q => by
  rw [kAt_listC (by decide)] at q ⊢; exact h b hb a q
/-- the stage -/
def Rs (C : CS) (M : MS) : Prop := (cN C 5 12 3 = 0 ∧ mF M 21 = 0) ∨ ∃ sz nm, 1 ≤ sz ∧ sz ≤ 30 ∧ nm < 1000 ∧ mF M 21 = nI sz ∧ mF M 20 = nI nm ∧ cN C 5 12 3 = sz + 2 ∧ (kAt C 6 12 0 = 1 ∧ kAt C 7 12 0 = nI nm ∧ kAt C 8 12 0 = nI sz) ∧ (∀ k, k < sz → kAt C 6 12 (k + 1) = 2 ∧ kAt C 7 12 (k + 1) = mF M 22 + nI k * mF M 23 ∧ kAt C 8 12 (k + 1) = 0) ∧ (kAt C 6 12 (sz + 1) = 3 ∧ kAt C 7 12 (sz + 1) = 0 ∧ kAt C 8 12 (sz + 1) = 0)
theorem Rs_of {C C' : CS} {M M' : MS} (h : Rs C M) (hN : cN C' 5 12 3 = cN C 5 12 3) (hB : ∀ f a, f ≤ 8 → a < cN C 5 12 3 → cB C' f 12 a = cB C f 12 a) (hF : ∀ k, 20 ≤ k → k ≤ 23 → mF M' k = mF M k) : Rs C' M' := by
  have ek : ∀ f a, f ≤ 8 → kAt C' f 12 a = kAt C f 12 a := fun f a hf => by
    unfold kAt; rw [hN]
    by_cases q : a < cN C 5 12 3
    · rw [if_pos q, if_pos q, hB f a hf q]
    · rw [if_neg q, if_neg q]
  unfold Rs
  rw [hN, hF 21 (by decide) (by decide), hF 20 (by decide) (by decide), hF 22 (by decide) (by decide), hF 23 (by decide) (by decide)]
  rcases h with h | ⟨sz, nm, a1, a2, a3, a4, a5, a6, a7, a8, a9⟩
  · exact Or.inl h
  · refine Or.inr ⟨sz, nm, a1, a2, a3, a4, a5, a6, ?_, fun k hk => ?_, ?_⟩
    · rw [ek 6 _ (by decide), ek 7 _ (by decide), ek 8 _ (by decide)]; exact a7
    · rw [ek 6 _ (by decide), ek 7 _ (by decide), ek 8 _ (by decide)]; exact a8 k hk
    · rw [ek 6 _ (by decide), ek 7 _ (by decide), ek 8 _ (by decide)]; exact a9
/-- between calls, but for the jobs' numbers -/
def K9 (n : Nat) (M : MS) : Prop := ∀ t nm, n ≤ t → t < 12 → nm < 1000 → mA M 9 (1000 * t + nm) = 0
def R0 (n : Nat) (C : CS) (M : MS) : Prop := Iv C ∧ (∀ d, cM C d = none) ∧ Rb n C M ∧ (∀ d, d < 3 → mA M 10 d = 0) ∧ (∀ t, t < n → Rcat C M t) ∧ Hh n C ∧ Rs C M ∧ K9 n M
def RR (n : Nat) (C : CS) (M : MS) : Prop := R0 n C M ∧ mF M 27 = cF C 0 0 5 ∧ mF M 28 = cF C 0 0 6
theorem R0_A {n : Nat} {C : CS} {M : MS} {j i : Nat} {v : Int32} (hj : 15 ≤ j) (h : R0 n C M) : R0 n C (smA M j i v) :=
  ⟨h.1, h.2.1, Rb_A (Or.inr (Or.inr hj)) h.2.2.1, fun d hd => by rw [mA_nj (by omega)]; exact h.2.2.2.1 d hd, fun t ht => (h.2.2.2.2.1 t ht).of (fun _ => rfl) (Nat.le_refl _) (fun _ _ _ _ => rfl) (fun nm _ => mA_nj (by omega)), h.2.2.2.2.2.1, h.2.2.2.2.2.2.1, fun t nm h1 h2 h3 => by rw [mA_nj (by omega)]; exact h.2.2.2.2.2.2.2 t nm h1 h2 h3⟩
theorem R0_F {n : Nat} {C : CS} {M : MS} {k : Nat} {v : Int32} (hk : k = 27 ∨ k = 28 ∨ k = 30) (h : R0 n C M) : R0 n C (smF M k v) :=
  ⟨h.1, h.2.1, Rb_F (by omega) h.2.2.1, h.2.2.2.1, h.2.2.2.2.1, h.2.2.2.2.2.1, Rs_of h.2.2.2.2.2.2.1 rfl (fun _ _ _ _ => rfl) (fun k' _ _ => by rw [mF_smF, if_neg (by omega)]), h.2.2.2.2.2.2.2⟩
theorem R0_mk {n : Nat} {C C' : CS} {M M' : MS} (h : R0 n C M) (hI : Iv C') (hM : ∀ d, cM C' d = none) (hb : Rb n C' M') (h10 : ∀ d, d < 3 → mA M' 10 d = 0) (hc : ∀ t, t < n → Rcat C' M' t) (hH : Hh n C') (hN : cN C' 5 12 3 = cN C 5 12 3) (hB : ∀ f a, f ≤ 8 → a < cN C 5 12 3 → cB C' f 12 a = cB C f 12 a) (hF : ∀ k, 20 ≤ k → k ≤ 23 → mF M' k = mF M k) (h9 : K9 n M') : R0 n C' M' :=
  ⟨hI, hM, hb, h10, hc, hH, Rs_of h.2.2.2.2.2.2.1 hN hB hF, h9⟩
theorem Rcat_Ex {C C' : CS} {M M' : MS} {t : Nat} (h : Rcat C M t) (x : Ex C C') (hm : ∀ i, mA M' 9 i = mA M 9 i) : Rcat C' M' t :=
  h.of (fun j => x.2.2.1 11 t j (by decide)) (x.1 t) (fun f a hf ha => x.2.1 f t a hf ha) (fun nm _ => hm _)
theorem RR_beg {n : Nat} {C : CS} {M : MS} (h : RR n C M) : R0 n C (mbeg M) ∧ mF (mbeg M) 30 = 0 ∧ mF (mbeg M) 27 = cF C 0 0 5 + 1 ∧ mF (mbeg M) 28 = cF C 0 0 6 := by
  refine ⟨R0_F (by decide) (R0_F (by decide) h.1), rfl, ?_, h.2.2⟩
  show mF M 27 + 1 = _; rw [h.2.1]
theorem RR_end {n : Nat} {C : CS} {M : MS} {w : Int32} (h : R0 n C M) (h27 : mF M 27 = cF C 0 0 5 + 1) (h28 : mF M 28 = cF C 0 0 6) (hw : 0 ≤ w ↔ mF M 30 = 0) : RR n (couC C w) (menE M) := by
  have hF : ∀ f i k, (f ≠ 0 ∨ k ≠ 5 ∧ k ≠ 6) → cF (couC C w) f i k = cF C f i k := fun f i k q => by
    unfold couC cou1; split
    · rw [cF_sF, if_neg (by omega)]
    · rw [cF_sF, if_neg (by omega), cF_sF, if_neg (by omega)]
  have h0 : R0 n (couC C w) M := by
    obtain ⟨a1, a2, ⟨b1, b2, b3, b4, b5⟩, a4, a5, a6, a7, a8⟩ := h
    refine ⟨couC_I a1, fun d => by rw [couC_M]; exact a2 d, ⟨?_, fun d q => Rd_of (b2 d q) (fun k => hF _ _ _ (by omega)) (fun _ _ _ _ => rfl), fun t q => Rt_of (b3 t q) (by rw [couC_N]) (by rw [couC_N]) (fun k => hF _ _ _ (by omega)) (fun _ _ _ _ => rfl), fun t a q q2 => Rk_of (b4 t a q q2) (by rw [couC_N]) (fun f _ => by rw [couC_B]) (fun _ _ _ _ => rfl), b5⟩, a4, fun t ht => (a5 t ht).of (fun _ => by rw [couC_B]) (by rw [couC_N]; exact Nat.le_refl _) (fun _ _ _ _ => by rw [couC_B]) (fun _ _ => rfl), Hh_of a6 (fun f b a => by unfold kAt; rw [couC_N, couC_B]), Rs_of a7 (by rw [couC_N]) (fun _ _ _ _ => by rw [couC_B]) (fun _ _ _ => rfl), a8⟩
    unfold Rg
    rw [hF 0 0 7 (by omega), hF 1 0 0 (by omega), hF 1 0 1 (by omega), hF 1 0 2 (by omega)]
    exact b1
  refine ⟨R0_F (by decide) h0, ?_, ?_⟩
  · show mF M 27 = _
    rw [h27]
    unfold couC cou1; split
    · rw [cF_sF, if_pos ⟨rfl, rfl, rfl⟩]
    · rw [cF_sF, if_neg (by omega), cF_sF, if_pos ⟨rfl, rfl, rfl⟩]
  · unfold menE
    rw [mF_smF, if_pos rfl, h28]
    unfold couC cou1
    by_cases q : 0 ≤ w
    · rw [if_pos q, if_pos (hw.mp q), cF_sF, if_neg (by omega)]; exact Int32.add_zero _
    · rw [if_neg q, if_neg (fun z => q (hw.mpr z)), cF_sF, if_pos ⟨rfl, rfl, rfl⟩]
/-! no drive -/
theorem R0_moN {n : Nat} {C : CS} {M : MS} {mm : Nat} (h : R0 n C M) : R0 n C (moN M mm) := by
  unfold moN mo0
  exact R0_F (by decide) (R0_A (by omega) (R0_A (by omega) (R0_A (by omega) (R0_A (by omega) h))))
theorem menR_ne {M : MS} {x w : Int32} (h : mF M 30 = w) (hw : w ≠ 0) : menR M x = w := by unfold menR; rw [if_neg (by rw [h]; exact hw), h]
theorem menR_0 {M : MS} {x : Int32} (h : mF M 30 = 0) : menR M x = x := by unfold menR; rw [if_pos h]
/-! writes of a row of blocks, the reference -/
def mws (d t : Nat) (K V Z : Nat → Int32) : Nat → Nat → Nat → MS → MS
  | 0, _, _, M => M
  | k + 1, j, q, M => mws d t K V Z k (j + 1) (q + 1) (mwr1 M 0 d t q (K j) (V j) (Z j))
theorem mws_ne {d t : Nat} {K V Z : Nat → Int32} : ∀ (k j q : Nat) (M : MS), mF M 30 ≠ 0 → mws d t K V Z k j q M = M := by
  intro k
  induction k with
  | zero => intro j q M _; rfl
  | succ k ih =>
    intro j q M h
    have e : mwr1 M 0 d t q (K j) (V j) (Z j) = M := if_pos h
    unfold mws; rw [e]; exact ih _ _ _ h
theorem mws_add {d t : Nat} {K V Z : Nat → Int32} {k2 : Nat} : ∀ (k j q : Nat) (M : MS), mws d t K V Z (k + k2) j q M = mws d t K V Z k2 (j + k) (q + k) (mws d t K V Z k j q M) := by
  intro k
  induction k with
  | zero => intro j q M; rw [Nat.zero_add]; rfl
  | succ k ih =>
    intro j q M
    rw [show k + 1 + k2 = k + k2 + 1 by omega]
    show mws d t K V Z (k + k2) (j + 1) (q + 1) (mwr1 M 0 d t q (K j) (V j) (Z j)) = mws d t K V Z k2 (j + (k + 1)) (q + (k + 1)) (mws d t K V Z k (j + 1) (q + 1) (mwr1 M 0 d t q (K j) (V j) (Z j)))
    rw [ih, show j + 1 + k = j + (k + 1) by omega, show q + 1 + k = q + (k + 1) by omega]
theorem mcpL_mws {d t : Nat} {sd sp : Int32} {K V Z : Nat → Int32} : ∀ (k j q : Nat) (M : MS), (∀ i, j ≤ i → i < j + k → K (i + 1) = 2 ∧ V (i + 1) = sd + nI i * sp ∧ Z (i + 1) = 0) → mcpL d t sd sp k j q M = mws d t K V Z k (j + 1) q M := by
  intro k
  induction k with
  | zero => intro j q M _; rfl
  | succ k ih =>
    intro j q M h
    unfold mcpL mws
    obtain ⟨a, b, c⟩ := h j (Nat.le_refl _) (by omega)
    rw [a, b, c]
    exact ih _ _ _ (fun i h1 h2 => h i (by omega) (by omega))
theorem mws_A {d t j' i' : Nat} {K V Z : Nat → Int32} (h : j' ≠ 11 ∧ j' ≠ 12 ∧ j' ≠ 14 ∧ j' ≠ 19) (h2 : (j' ≠ 5 ∧ j' ≠ 6 ∧ j' ≠ 7) ∧ j' ≠ 2) : ∀ (k j q : Nat) (M : MS), mA (mws d t K V Z k j q M) j' i' = mA M j' i' := by
  intro k
  induction k with
  | zero => intro j q M; rfl
  | succ k ih => intro j q M; unfold mws; rw [ih, mwr1_A h h2]
theorem mws_F {d t f : Nat} {K V Z : Nat → Int32} (h : f ≠ 25 ∧ f ≠ 29 ∧ f ≠ 30) : ∀ (k j q : Nat) (M : MS), mF (mws d t K V Z k j q M) f = mF M f := by
  intro k
  induction k with
  | zero => intro j q M; rfl
  | succ k ih => intro j q M; unfold mws; rw [ih, mwr1_F h]
/-- writing the staged blocks, on both sides -/
theorem ws_b {n d t : Nat} {S : Nat → Nat → Int32} (hn : n ≤ 12) (hd : d < 3) (ht : t < n) : ∀ (k j q : Nat) (w : Int32) (C : CS) (M : MS), Rb n C M → w = mF M 30 → SL C M 0 d → Iv C → Hh n C → (∀ f a, f = 6 ∨ f = 7 ∨ f = 8 → kAt C f 12 a = S f a) → (w = 0 → cF C 3 d 4 = 0 ∧ cN C 3 d 8 = q ∧ cN C 5 t 3 = q) →
    Rb n (wsL d t k j w C).2 (mws d t (S 6) (S 7) (S 8) k j q M) ∧ (wsL d t k j w C).1 = mF (mws d t (S 6) (S 7) (S 8) k j q M) 30 ∧ SL (wsL d t k j w C).2 (mws d t (S 6) (S 7) (S 8) k j q M) 0 d ∧ Iv (wsL d t k j w C).2 ∧ Hh n (wsL d t k j w C).2 ∧ Ex C (wsL d t k j w C).2 ∧ ((wsL d t k j w C).1 = 0 → cN (wsL d t k j w C).2 5 t 3 = q + k ∧ ∀ f i, f = 6 ∨ f = 7 ∨ f = 8 → i < k → kAt (wsL d t k j w C).2 f t (q + i) = S f (j + i)) := by
  intro k
  induction k with
  | zero => intro j q w C M h hw hS hI hH _ h0; exact ⟨h, hw, hS, hI, hH, Ex.rf, fun z => ⟨(h0 z).2.2, fun _ i _ hi => absurd hi (by omega)⟩⟩
  | succ k ih =>
    intro j q w C M h hw hS hI hH hst h0
    by_cases z : w = 0
    · obtain ⟨hj, hq, he⟩ := h0 z
      have z30 : mF M 30 = 0 := hw.symm.trans z
      have hc := hI.1 t
      rw [cap_t (show t < 12 by omega)] at hc
      obtain ⟨p1, p2, p3, p4, p5⟩ := wri_b (mm := 0) (b := 12) (a := j) h z30 hn hd ht hj hq he (by omega) hS
      have e1 : mwr1 M 0 d t q (S 6 j) (S 7 j) (S 8 j) = mwri M 0 d t q (kAt C 6 12 j) (kAt C 7 12 j) (kAt C 8 12 j) := by
        unfold mwr1; rw [if_neg (fun q => q z30), hst 6 j (by decide), hst 7 j (by decide), hst 8 j (by decide)]
      unfold wsL mws
      rw [if_neg (fun q => q z), e1]
      have hst2 : ∀ f a, f = 6 ∨ f = 7 ∨ f = 8 → kAt (wriC C d t 12 j).2 f 12 a = S f a := fun f a hf => by
        rw [← hst f a hf]
        unfold kAt; rw [p4.2.2.2.1]
        by_cases q : a < cN C 5 12 3
        · rw [if_pos q, if_pos q, p4.2.1 f 12 a (by omega) q]
        · rw [if_neg q, if_neg q]
      obtain ⟨r1, r2, r3, r4, r5, r6, r7⟩ := ih (j + 1) (q + 1) (wriC C d t 12 j).1 (wriC C d t 12 j).2 _ p1 p2 p3 (wriC_I hI) (Hh_wri hH (Or.inr rfl)) hst2 (fun w0 => ⟨(p5 w0).1, (p5 w0).2.1, (p5 w0).2.2.1⟩)
      refine ⟨r1, r2, r3, r4, r5, p4.tr r6, fun w0 => ?_⟩
      have w1 : (wriC C d t 12 j).1 = 0 := by
        refine Classical.byContradiction (fun q => ?_)
        rw [wsL_ne q] at w0; exact q w0
      obtain ⟨s1, s2⟩ := r7 w0
      obtain ⟨_, _, t3, t4, t5⟩ := p5 w1
      refine ⟨by omega, fun f i hf hi => ?_⟩
      by_cases i0 : i = 0
      · subst i0
        have hx := r6.2.1 f t q (by omega) (by omega)
        have := t5 f hf
        rw [hst f j hf] at this
        show kAt (wsL d t k (j + 1) (wriC C d t 12 j).1 (wriC C d t 12 j).2).2 f t q = S f j
        rw [← this]
        unfold kAt
        rw [if_pos (by omega), if_pos (by omega), hx]
      · have := s2 f (i - 1) hf (by omega)
        rw [show q + 1 + (i - 1) = q + i by omega, show j + 1 + (i - 1) = j + i by omega] at this
        exact this
    · rw [wsL_ne z, mws_ne _ _ _ _ (by rw [← hw]; exact z)]
      exact ⟨h, hw, hS, hI, hH, Ex.rf, fun q => absurd q z⟩
