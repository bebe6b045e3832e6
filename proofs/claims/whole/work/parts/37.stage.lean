/-! ===== the two sides: stage ===== -/
/-- only the stage's row changes -/
def O12 (C C' : CS) : Prop := (∀ f i k, f ≠ 5 ∨ i ≠ 12 → cN C' f i k = cN C f i k) ∧ (∀ f b a, b ≠ 12 ∨ 8 < f → cB C' f b a = cB C f b a) ∧ cF C' = cF C ∧ cM C' = cM C
theorem O12.tr {C C1 C2 : CS} (a : O12 C C1) (b : O12 C1 C2) : O12 C C2 := ⟨fun f i k h => (b.1 f i k h).trans (a.1 f i k h), fun f i k h => (b.2.1 f i k h).trans (a.2.1 f i k h), b.2.2.1.trans a.2.2.1, b.2.2.2.trans a.2.2.2⟩
theorem O12_clr {C : CS} : O12 C (sN C 5 12 3 0) := ⟨fun f i k h => by rw [cN_sN, if_neg (by omega)], fun _ _ _ _ => rfl, rfl, rfl⟩
theorem O12_add {C : CS} {k v z : Int32} : O12 C (addC C 12 k v z) := by
  refine ⟨fun f i k' h => addC_N _ _ _ h, fun f b a h => ?_, addC_F _ _ _ _ _, addC_M _ _ _ _ _⟩
  unfold addC; split
  · rfl
  · rw [cB_sN, cB_sB, if_neg (by omega), cB_sB, if_neg (by omega), cB_sB, if_neg (by omega)]
theorem O12_stL {sd st : Int32} : ∀ (k j : Nat) (C : CS), O12 C (stL sd st k j C) := by
  intro k
  induction k with
  | zero => intro j C; exact ⟨fun _ _ _ _ => rfl, fun _ _ _ _ => rfl, rfl, rfl⟩
  | succ k ih => intro j C; unfold stL; exact O12_add.tr (ih _ _)
theorem Iv_stL {sd st : Int32} : ∀ (k j : Nat) (C : CS), Iv C → Iv (stL sd st k j C) := by
  intro k
  induction k with
  | zero => intro j C h; exact h
  | succ k ih => intro j C h; unfold stL; exact ih _ _ (Iv_add h ⟨rfl, by decide⟩)
theorem Hh_stL {n : Nat} {sd st : Int32} : ∀ (k j : Nat) (C : CS), Hh n C → Hh n (stL sd st k j C) := by
  intro k
  induction k with
  | zero => intro j C h; exact h
  | succ k ih => intro j C h; unfold stL; exact ih _ _ (Hh_add h (fun q => absurd q (by decide)))
theorem stL_k {sd st : Int32} : ∀ (k j : Nat) (C : CS), cN C 5 12 3 = j + 1 → j + k ≤ 30 → cN (stL sd st k j C) 5 12 3 = j + 1 + k ∧ (∀ i, i < k → kAt (stL sd st k j C) 6 12 (j + 1 + i) = 2 ∧ kAt (stL sd st k j C) 7 12 (j + 1 + i) = sd + nI (j + i) * st ∧ kAt (stL sd st k j C) 8 12 (j + 1 + i) = 0) ∧ (∀ f a, f = 6 ∨ f = 7 ∨ f = 8 → a ≤ j → kAt (stL sd st k j C) f 12 a = kAt C f 12 a) := by
  intro k
  induction k with
  | zero => intro j C h _; exact ⟨h, fun i hi => absurd hi (by omega), fun _ _ _ _ => rfl⟩
  | succ k ih =>
    intro j C h hb
    have hc : cN C 5 12 3 < cap 12 := by rw [cap_12]; omega
    unfold stL
    obtain ⟨r1, r2, r3⟩ := ih (j + 1) (addC C 12 2 (sd + nI j * st) 0) (by rw [cN_add hc, if_pos rfl, h]) (by omega)
    have e : ∀ f, f = 6 ∨ f = 7 ∨ f = 8 → kAt (addC C 12 2 (sd + nI j * st) 0) f 12 (j + 1) = (if f = 6 then 2 else if f = 7 then sd + nI j * st else 0) := fun f hf => by
      rw [kAt_add hf hc, if_pos ⟨rfl, h.symm⟩]
    refine ⟨by omega, fun i hi => ?_, fun f a hf ha => ?_⟩
    · by_cases i0 : i = 0
      · subst i0
        have x6 := r3 6 (j + 1) (by decide) (Nat.le_refl _)
        have x7 := r3 7 (j + 1) (by decide) (Nat.le_refl _)
        have x8 := r3 8 (j + 1) (by decide) (Nat.le_refl _)
        rw [e 6 (by decide)] at x6
        rw [e 7 (by decide)] at x7
        rw [e 8 (by decide)] at x8
        exact ⟨x6, x7, x8⟩
      · have := r2 (i - 1) (by omega)
        rw [show j + 1 + 1 + (i - 1) = j + 1 + i by omega, show j + 1 + (i - 1) = j + i by omega] at this
        exact this
    · rw [r3 f a hf (by omega), kAt_add hf hc, if_neg (by omega)]
theorem R0_stage {n nm sz : Nat} {C : CS} {M : MS} {sd st : Int32} (h : R0 n C M) (hn : n ≤ 12) (hnm : nm < 1000) (h1 : 1 ≤ sz) (h30 : sz ≤ 30) : R0 n (staC C (nI nm) sz sd st) (mstg M (nI nm) (nI sz) sd st) := by
  have hsz : nI sz = nI (nI sz).toNatClampNeg ∧ (nI sz).toNatClampNeg ≤ 30 := by rw [nI_clamp (by omega)]; exact ⟨rfl, h30⟩
  have e0 : cN (sN C 5 12 3 0) 5 12 3 = 0 := by rw [cN_sN, if_pos ⟨rfl, rfl, rfl⟩]
  have hc0 : cN (sN C 5 12 3 0) 5 12 3 < cap 12 := by rw [e0]; decide
  have hI0 := Iv_clr h.1
  have hH0 : Hh n (sN C 5 12 3 0) := fun b hb a q => by
    by_cases e : b = 12
    · subst e
      unfold kAt at q
      rw [e0, if_neg (by omega)] at q
      exact absurd q (by decide)
    · have ek : ∀ f, kAt (sN C 5 12 3 0) f b a = kAt C f b a := fun f => by
        unfold kAt
        rw [cN_sN, if_neg (show ¬ (3 = 3 ∧ 5 = 5 ∧ b = 12) from fun w => e w.2.2)]; rfl
      rw [ek] at q ⊢
      exact h.2.2.2.2.2.1 b hb a q
  have hI1 := Iv_add (b := 12) (k := 1) (v := nI nm) hI0 hsz
  have hH1 : Hh n (addC (sN C 5 12 3 0) 12 1 (nI nm) (nI sz)) := Hh_add hH0 (fun _ => ⟨nm, hnm, rfl⟩)
  have hO1 : O12 C (addC (sN C 5 12 3 0) 12 1 (nI nm) (nI sz)) := O12_clr.tr O12_add
  have e1 : cN (addC (sN C 5 12 3 0) 12 1 (nI nm) (nI sz)) 5 12 3 = 0 + 1 := by rw [cN_add hc0, if_pos rfl, e0]
  have k1 : ∀ f, f = 6 ∨ f = 7 ∨ f = 8 → kAt (addC (sN C 5 12 3 0) 12 1 (nI nm) (nI sz)) f 12 0 = (if f = 6 then 1 else if f = 7 then nI nm else nI sz) := fun f hf => by
    rw [kAt_add hf hc0, if_pos ⟨rfl, e0.symm⟩]
  unfold staC
  generalize addC (sN C 5 12 3 0) 12 1 (nI nm) (nI sz) = A at hI1 hH1 hO1 e1 k1 ⊢
  obtain ⟨s1, s2, s3⟩ := stL_k (sd := sd) (st := st) sz 0 A e1 (by omega)
  have hI2 := Iv_stL (sd := sd) (st := st) sz 0 A hI1
  have hH2 := Hh_stL (n := n) (sd := sd) (st := st) sz 0 A hH1
  have hO2 := hO1.tr (O12_stL (sd := sd) (st := st) sz 0 A)
  generalize stL sd st sz 0 A = B at s1 s2 s3 hI2 hH2 hO2 ⊢
  have hcB : cN B 5 12 3 < cap 12 := by rw [s1, cap_12]; omega
  have hI3 := Iv_add (b := 12) (k := 3) (v := 0) (z := 0) hI2 ⟨rfl, by decide⟩
  have hH3 : Hh n (addC B 12 3 0 0) := Hh_add hH2 (fun q => absurd q (by decide))
  have hO3 : O12 C (addC B 12 3 0 0) := hO2.tr O12_add
  have e3 : cN (addC B 12 3 0 0) 5 12 3 = sz + 2 := by rw [cN_add hcB, if_pos rfl, s1]; omega
  have k3 : ∀ f a, f = 6 ∨ f = 7 ∨ f = 8 → kAt (addC B 12 3 0 0) f 12 a = if a = sz + 1 then (if f = 6 then 3 else 0) else kAt B f 12 a := fun f a hf => by
    rw [kAt_add hf hcB, s1]
    by_cases e : a = sz + 1
    · rw [if_pos ⟨rfl, by omega⟩, if_pos e]
      rcases hf with rfl | rfl | rfl <;> rfl
    · rw [if_neg (by omega), if_neg e]
  generalize addC B 12 3 0 0 = E at hI3 hH3 hO3 e3 k3 ⊢
  obtain ⟨a1, a2, ⟨⟨g0, g1, g2, g3, g4⟩, b2, b3, b4, b5⟩, a4, a5, a6, a7, a8⟩ := h
  obtain ⟨o1, o2, o3, o4⟩ := hO3
  refine ⟨hI3, fun d => by rw [o4]; exact a2 d, ⟨?_, fun d q => Rd_of (b2 d q) (fun k => by rw [o3]) (fun _ _ _ _ => rfl), fun t q => Rt_of (b3 t q) (o1 _ _ _ (by omega)) (o1 _ _ _ (by omega)) (fun k => by rw [o3]) (fun _ _ _ _ => rfl), fun t a q q2 => Rk_of (b4 t a q q2) (o1 _ _ _ (by omega)) (fun f _ => o2 _ _ _ (by omega)) (fun _ _ _ _ => rfl), b5⟩, a4, fun t ht => Rcat_other (a5 t ht) (o1 _ _ _ (by omega)) (fun f a => o2 _ _ _ (by omega)) (fun _ _ => rfl), hH3, Or.inr ⟨sz, nm, h1, h30, hnm, rfl, rfl, e3, ⟨?_, ?_, ?_⟩, fun k hk => ⟨?_, ?_, ?_⟩, ?_, ?_, ?_⟩, a8⟩
  · unfold Rg mstg; simp [o3, mF_smF, g0, g1, g2, g3, g4]
  · rw [k3 6 0 (by decide), if_neg (by omega), s3 6 0 (by decide) (by omega)]; exact k1 6 (by decide)
  · rw [k3 7 0 (by decide), if_neg (by omega), s3 7 0 (by decide) (by omega)]; exact k1 7 (by decide)
  · rw [k3 8 0 (by decide), if_neg (by omega), s3 8 0 (by decide) (by omega)]; exact k1 8 (by decide)
  · rw [k3 6 _ (by decide), if_neg (by omega)]
    have := (s2 k hk).1
    rw [show 0 + 1 + k = k + 1 by omega] at this; exact this
  · rw [k3 7 _ (by decide), if_neg (by omega)]
    have := (s2 k hk).2.1
    rw [show 0 + 1 + k = k + 1 by omega, Nat.zero_add] at this; exact this
  · rw [k3 8 _ (by decide), if_neg (by omega)]
    have := (s2 k hk).2.2
    rw [show 0 + 1 + k = k + 1 by omega] at this; exact this
  · rw [k3 6 _ (by decide), if_pos rfl]; rfl
  · rw [k3 7 _ (by decide), if_pos rfl]; rfl
  · rw [k3 8 _ (by decide), if_pos rfl]; rfl
theorem t_stage (l : Launch) (G : GG) (D : CS) {n : Nat} {C : CS} {M : MS} (hR : RR n C M) (hn : n ≤ 12) (x z sd st : Int32) : ∃ M', Ct l G yX5_stage cX5_stage 5 (some .int) 2 42 [.ref (zad G 12 0), .int x, .int z, .int sd, .int st] D M (some (.int (staT C x z sd st).1)) D M' ∧ RR n (staT C x z sd st).2 M' := by
  unfold staT
  by_cases hx : nameP x
  · rw [if_pos hx]
    by_cases hz : z < 1 ∨ 30 < z
    · rw [if_pos hz]; exact ⟨M, m_sta_s l G D M hx (fun q => hz.elim q.1 q.2) sd st, hR⟩
    · rw [if_neg hz]
      have hi : inP z 1 30 := ⟨fun q => hz (Or.inl q), fun q => hz (Or.inr q)⟩
      refine ⟨_, m_sta_1 l G D M hx hi sd st, ?_⟩
      obtain ⟨nm, hnm, rfl⟩ := name_arg hx
      rcases pk_ix z (n := 31) (by decide) with q | q | ⟨k, hk, rfl⟩
      · exact absurd (Or.inl (Int32.lt_trans q (by decide))) hz
      · exact absurd (Or.inr (Int32.lt_of_lt_of_le (by decide) q)) hz
      · have h1 : 1 ≤ k := by
          refine Nat.pos_of_ne_zero (fun q => hz (Or.inl ?_)); subst q; decide
        rw [tN_nI (show k < 2 ^ 31 by omega)]
        have hF : cF (staC C (nI nm) k sd st) = cF C := by
          unfold staC; rw [addC_F, (O12_stL k 0 _).2.2.1, addC_F]; rfl
        exact ⟨R0_stage hR.1 hn hnm h1 (by omega), by show mF M 27 = _; rw [hF]; exact hR.2.1, by show mF M 28 = _; rw [hF]; exact hR.2.2⟩
  · rw [if_neg hx]; exact ⟨M, m_sta_n l G D M hx z sd st, hR⟩
