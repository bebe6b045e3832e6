/-! ===== the two sides: move ===== -/
theorem pasC_F4 {C : CS} {d d' k : Nat} (h : d' ≠ d) : cF (pasC C d).2 3 d' k = cF C 3 d' k := by
  unfold pasC; split
  · split
    · show cF (pas2 (wkC C) d) 3 d' k = _
      unfold pas2 pas1; split
      · rw [cF_sN, cF_sF, if_neg (by omega), wkC_F _ _ _ _ (by decide)]
      · rw [cF_sN, cF_sF, if_neg (by omega), cF_sF, if_neg (by omega), wkC_F _ _ _ _ (by decide)]
    · exact wkC_F _ _ _ _ (by decide)
  · show cF (sF C 3 d 4 1) 3 d' k = _
    rw [cF_sF, if_neg (by omega)]
theorem pasC_pos2 {C : CS} {d d' : Nat} : cN (pasC C d).2 3 d' 8 ≤ cN C 3 d' 8 + 1 := by
  by_cases e : d' = d
  · rw [e]; exact pasC_pos C d
  · rw [pasC_N _ _ _ _ _ (Or.inr (Or.inr e))]; omega
theorem wriC_F4 {C : CS} {d t b a d' k : Nat} (h : d' ≠ d) : cF (wriC C d t b a).2 3 d' k = cF C 3 d' k := by
  unfold wriC; split
  · rfl
  · split
    · exact pasC_F4 h
    · show cF (addC _ _ _ _ _) 3 d' k = _
      rw [addC_F, pasC_F4 h]
theorem wriC_pos2 {C : CS} {d t b a d' : Nat} : cN (wriC C d t b a).2 3 d' 8 ≤ cN C 3 d' 8 + 1 := by
  have := pasC_pos2 (C := C) (d := d) (d' := d')
  unfold wriC; split
  · show cN C 3 d' 8 ≤ _; omega
  · split
    · exact this
    · show cN (addC _ _ _ _ _) 3 d' 8 ≤ _; rw [addC_N _ _ _ (Or.inl (by decide))]; exact this
theorem mvL_pos {d1 t1 d2 t2 d' : Nat} : ∀ (k a : Nat) (w : Int32) (C : CS), cN (mvL d1 t1 d2 t2 k a w C).2 3 d' 8 ≤ cN C 3 d' 8 + 2 * k := by
  intro k
  induction k with
  | zero => intro a w C; exact Nat.le_refl _
  | succ k ih =>
    intro a w C; unfold mvL; split
    · show cN C 3 d' 8 ≤ _; omega
    · have h1 := ih (a + 1) (mv2 (reaC C d1 t1).2 d2 t2 t1 a (reaC C d1 t1).1).1 (mv2 (reaC C d1 t1).2 d2 t2 t1 a (reaC C d1 t1).1).2
      have h2 : cN (mv2 (reaC C d1 t1).2 d2 t2 t1 a (reaC C d1 t1).1).2 3 d' 8 ≤ cN (reaC C d1 t1).2 3 d' 8 + 1 := by
        unfold mv2; split
        · show cN (reaC C d1 t1).2 3 d' 8 ≤ _; omega
        · exact wriC_pos2
      have h3 : cN (reaC C d1 t1).2 3 d' 8 ≤ cN C 3 d' 8 + 1 := by rw [reaC_2]; exact pasC_pos2
      omega
theorem mv_b {n d1 t1 d2 t2 : Nat} {S : Nat → Nat → Int32} (hn : n ≤ 12) (hd1 : d1 < 3) (ht1 : t1 < n) (hd2 : d2 < 3) (ht2 : t2 < n) (hdd : d1 ≠ d2) (htt : t1 ≠ t2) : ∀ (k a q : Nat) (w : Int32) (C : CS) (M : MS), Rb n C M → w = mF M 30 → SL C M 0 d1 → SL C M 1 d2 → Iv C → Hh n C → (∀ f a, f = 6 ∨ f = 7 ∨ f = 8 → kAt C f t1 a = S f a) → (w = 0 → cF C 3 d1 4 = 0 ∧ cN C 3 d1 8 = a ∧ cF C 3 d2 4 = 0 ∧ cN C 3 d2 8 = q ∧ cN C 5 t2 3 = q) → a + k ≤ 100 →
    Rb n (mvL d1 t1 d2 t2 k a w C).2 (mmvL d1 t1 d2 t2 k a q M) ∧ (mvL d1 t1 d2 t2 k a w C).1 = mF (mmvL d1 t1 d2 t2 k a q M) 30 ∧ SL (mvL d1 t1 d2 t2 k a w C).2 (mmvL d1 t1 d2 t2 k a q M) 0 d1 ∧ SL (mvL d1 t1 d2 t2 k a w C).2 (mmvL d1 t1 d2 t2 k a q M) 1 d2 ∧ Iv (mvL d1 t1 d2 t2 k a w C).2 ∧ Hh n (mvL d1 t1 d2 t2 k a w C).2 ∧ Ex C (mvL d1 t1 d2 t2 k a w C).2 ∧ ((mvL d1 t1 d2 t2 k a w C).1 = 0 → cN (mvL d1 t1 d2 t2 k a w C).2 5 t2 3 = q + k ∧ ∀ f i, f = 6 ∨ f = 7 ∨ f = 8 → i < k → kAt (mvL d1 t1 d2 t2 k a w C).2 f t2 (q + i) = S f (a + i)) := by
  intro k
  induction k with
  | zero => intro a q w C M h hw hS0 hS1 hI hH _ h0 _; exact ⟨h, hw, hS0, hS1, hI, hH, Ex.rf, fun z => ⟨(h0 z).2.2.2.2, fun _ i _ hi => absurd hi (by omega)⟩⟩
  | succ k ih =>
    intro a q w C M h hw hS0 hS1 hI hH hst h0 hb
    by_cases z : w = 0
    · obtain ⟨hj1, hq1, hj2, hq2, he⟩ := h0 z
      have z30 : mF M 30 = 0 := hw.symm.trans z
      have hcap := hI.1 t2
      rw [cap_t (show t2 < 12 by omega)] at hcap
      obtain ⟨p1, p2, p3, p4, p5⟩ := rea_b (mm := 0) h z30 hd1 ht1 hj1 hq1 (by omega) hS0
      have hSm : Sm C (reaC C d1 t1).2 := Sm_rea
      have pk := p1.2.2.2.1 t1 a ht1 (by omega)
      have pS1 : SL (reaC C d1 t1).2 (mtak M 0 d1 t1 a) 1 d2 := SL_of hS1 (by rw [reaC_2, pasC_N _ _ _ _ _ (by omega)]) (by rw [reaC_2, pasC_N _ _ _ _ _ (by omega)]) (fun j hj => (Kp_tak (by decide) z30).1 j hj)
      have pj2 : cF (reaC C d1 t1).2 3 d2 4 = 0 := by rw [reaC_2, pasC_F4 (Ne.symm hdd)]; exact hj2
      have pq2 : cN (reaC C d1 t1).2 3 d2 8 = q := by rw [reaC_2, pasC_N _ _ _ _ _ (by omega)]; exact hq2
      have pe : cN (reaC C d1 t1).2 5 t2 3 = q := (hSm.1 5 t2 3 (by decide)).trans he
      unfold mvL mmvL mmvS
      rw [if_neg (fun q => q z), if_neg (fun q => q z30), pk.1, pk.2.1, pk.2.2.1]
      have hPI := hSm.I hI
      have hPH := Hh_Sm hH hSm
      have hPk : ∀ f a, f = 6 ∨ f = 7 ∨ f = 8 → kAt (reaC C d1 t1).2 f t1 a = S f a := fun f a hf => by rw [hSm.k]; exact hst f a hf
      generalize reaC C d1 t1 = P at p1 p2 p3 p4 p5 pS1 pj2 pq2 pe hPI hPH hPk ⊢
      generalize mtak M 0 d1 t1 a = T at p1 p2 p3 pS1 ⊢
      by_cases y : P.1 = 0
      · have y30 : mF T 30 = 0 := p2.symm.trans y
        obtain ⟨w1, w2, w3, w4, w5⟩ := wri_b (mm := 1) (b := t1) (a := a) p1 y30 hn hd2 ht2 pj2 pq2 pe (by omega) pS1
        have e1 : mwr1 T 1 d2 t2 q (kAt P.2 6 t1 a) (kAt P.2 7 t1 a) (kAt P.2 8 t1 a) = mwri T 1 d2 t2 q (kAt P.2 6 t1 a) (kAt P.2 7 t1 a) (kAt P.2 8 t1 a) := if_neg (fun q => q y30)
        have e2 : mv2 P.2 d2 t2 t1 a P.1 = wriC P.2 d2 t2 t1 a := if_neg (fun q => q y)
        have hK0 := (Kp_wr1 (M := T) (mm := 0) (m2 := 1) (d := d2) (t := t2) (q := q) (k := kAt P.2 6 t1 a) (n := kAt P.2 7 t1 a) (z := kAt P.2 8 t1 a) (by decide)).1
        have wS0 : SL (wriC P.2 d2 t2 t1 a).2 (mwr1 T 1 d2 t2 q (kAt P.2 6 t1 a) (kAt P.2 7 t1 a) (kAt P.2 8 t1 a)) 0 d1 := SL_of p3 (wriC_N _ _ _ (by omega) (by omega)) (wriC_N _ _ _ (by omega) (by omega)) (fun j hj => hK0 j hj)
        rw [e1] at wS0 ⊢
        rw [e2]
        have wst : ∀ f a', f = 6 ∨ f = 7 ∨ f = 8 → kAt (wriC P.2 d2 t2 t1 a).2 f t1 a' = S f a' := fun f a' hf => by
          rw [← hPk f a' hf]
          have e5 : cN (wriC P.2 d2 t2 t1 a).2 5 t1 3 = cN P.2 5 t1 3 := wriC_N _ _ _ (by omega) (by omega)
          unfold kAt; rw [e5]
          by_cases q : a' < cN P.2 5 t1 3
          · rw [if_pos q, if_pos q, w4.2.1 f t1 a' (by omega) q]
          · rw [if_neg q, if_neg q]
        have wj1 : cF (wriC P.2 d2 t2 t1 a).2 3 d1 4 = 0 := by rw [wriC_F4 hdd]; exact (p5 (Or.inl y)).1
        have wq1 : cN (wriC P.2 d2 t2 t1 a).2 3 d1 8 = a + 1 := by rw [wriC_N _ _ _ (by omega) (by omega)]; exact (p5 (Or.inl y)).2
        obtain ⟨r1, r2, r3, r4, r5, r6, r7, r8⟩ := ih (a + 1) (q + 1) (wriC P.2 d2 t2 t1 a).1 (wriC P.2 d2 t2 t1 a).2 _ w1 w2 wS0 w3 (wriC_I hPI) (Hh_wri hPH (Or.inl ht1)) wst (fun w0 => ⟨wj1, wq1, (w5 w0).1, (w5 w0).2.1, (w5 w0).2.2.1⟩) (by omega)
        refine ⟨r1, r2, r3, r4, r5, r6, p4.tr (w4.tr r7), fun w0 => ?_⟩
        have y1 : (wriC P.2 d2 t2 t1 a).1 = 0 := by
          refine Classical.byContradiction (fun q => ?_)
          rw [mvL_ne q] at w0; exact q w0
        obtain ⟨s1, s2⟩ := r8 w0
        obtain ⟨_, _, t3, t4, t5⟩ := w5 y1
        refine ⟨by omega, fun f i hf hi => ?_⟩
        by_cases i0 : i = 0
        · subst i0
          have hx := r7.2.1 f t2 q (by omega) (by omega)
          have := t5 f hf
          rw [hPk f a hf] at this
          show kAt _ f t2 q = S f a
          rw [← this]
          unfold kAt
          rw [if_pos (by omega), if_pos (by omega), hx]
        · have := s2 f (i - 1) hf (by omega)
          rw [show q + 1 + (i - 1) = q + i by omega, show a + 1 + (i - 1) = a + i by omega] at this
          exact this
      · have y30 : mF T 30 ≠ 0 := by rw [← p2]; exact y
        have e1 : mwr1 T 1 d2 t2 q (kAt P.2 6 t1 a) (kAt P.2 7 t1 a) (kAt P.2 8 t1 a) = T := if_pos y30
        have e2 : mv2 P.2 d2 t2 t1 a P.1 = (P.1, P.2) := if_pos y
        have e3 : mmvL d1 t1 d2 t2 k (a + 1) (q + 1) T = T := by
          cases k with
          | zero => rfl
          | succ k => unfold mmvL; rw [if_pos y30]
        rw [e1, e2, e3, mvL_ne y]
        exact ⟨p1, p2, p3, pS1, hPI, hPH, p4, fun q => absurd q y⟩
    · have z30 : mF M 30 ≠ 0 := by rw [← hw]; exact z
      rw [mvL_ne z]
      unfold mmvL; rw [if_pos z30]
      exact ⟨h, hw, hS0, hS1, hI, hH, Ex.rf, fun q => absurd q z⟩
