/-! ===== the two sides: the plain calls ===== -/
theorem t_lose (l : Launch) (G : GG) (D : CS) {n : Nat} {C : CS} {M : MS} (hR : RR n C M) (hn : n ≤ 12) (x : Int32) : ∃ M', Ct l G yX5_lose cX5_lose 2 (some .int) 2 43 [.ref (zad G 12 0), .int x] D M (some (.int (losT n C x).1)) D M' ∧ RR n (losT n C x).2 M' := by
  have hM0 : mF M 0 = nI n := Rn hR.1
  unfold losT
  rcases tape_cases hn x with hb | ⟨t, ht, rfl, hb, htx⟩
  · rw [if_pos hb]; exact ⟨M, m_los_b l G D M hn hM0 hb, hR⟩
  · rw [if_neg hb, htx]
    obtain ⟨a, b⟩ := R0_lose hR.1 ht
    have := m_los_1 l G D M hn hM0 ht
    rw [← b] at this
    refine ⟨_, this, a, ?_, ?_⟩
    · rw [fgL_F, (uaL_F _ _ _ _).1]; exact hR.2.1
    · rw [fgL_F, (uaL_F _ _ _ _).1]; exact hR.2.2
/-! damage -/
theorem Rcat_other' {C C' : CS} {M M' : MS} {t' : Nat} (h : Rcat C M t') (hN : cN C' 5 t' 3 = cN C 5 t' 3) (hB : ∀ f a, f ≠ 10 → cB C' f t' a = cB C f t' a) (hm : ∀ nm, nm < 1000 → mA M' 9 (1000 * t' + nm) = mA M 9 (1000 * t' + nm)) : Rcat C' M' t' :=
  h.of (fun j => hB 11 j (by decide)) (by rw [hN]; exact Nat.le_refl _) (fun f a hf _ => hB f a (by omega)) hm
theorem R0_dmg {n t j : Nat} {C C' : CS} {M : MS} (h : R0 n C M) (ht : t < n) (hj : j < 100) (hc : C' = sB C 10 t j 1 ∨ (C' = C ∧ cB C 10 t j ≠ 0)) : R0 n C' (smA M 8 (100 * t + j) 1) := by
  obtain ⟨a1, a2, ⟨b1, b2, b3, b4, b5⟩, a4, a5, a6, a7, a8⟩ := h
  have hB : ∀ f b a, (f ≠ 10 ∨ b ≠ t ∨ a ≠ j) → cB C' f b a = cB C f b a := fun f b a q => by
    rcases hc with rfl | ⟨rfl, _⟩
    · rw [cB_sB, if_neg (by omega)]
    · rfl
  have hd : cB C' 10 t j ≠ 0 := by
    rcases hc with rfl | ⟨rfl, q⟩
    · rw [cB_sB, if_pos ⟨rfl, rfl, rfl⟩]; decide
    · exact q
  have hN : cN C' = cN C := by rcases hc with rfl | ⟨rfl, _⟩ <;> rfl
  have hF : cF C' = cF C := by rcases hc with rfl | ⟨rfl, _⟩ <;> rfl
  have hM : cM C' = cM C := by rcases hc with rfl | ⟨rfl, _⟩ <;> rfl
  have hI : Iv C' := by
    rcases hc with rfl | ⟨rfl, _⟩
    · exact Iv_B a1 (by decide)
    · exact a1
  have hk : ∀ f b a, f ≤ 8 → kAt C' f b a = kAt C f b a := fun f b a q => by unfold kAt; rw [hN, hB f b a (by omega)]
  refine ⟨hI, fun d => by rw [hM]; exact a2 d, ⟨?_, fun d q => Rd_of (b2 d q) (fun k => by rw [hF]) (fun j' i _ _ => mA_nj (by omega)), fun t q => Rt_of (b3 t q) (by rw [hN]) (by rw [hN]) (fun k => by rw [hF]) (fun j' i _ _ => mA_nj (by omega)), fun t' a q q2 => ?_, Bk_of b5 (fun j' t' h1 h2 h3 h4 => mA_nj (by omega)) (fun j' t' a h1 h2 h3 h4 h5 => mA_ni (by omega))⟩, fun d hd' => by rw [mA_nj (by decide)]; exact a4 d hd', fun t' ht' => Rcat_other' (a5 t' ht') (by rw [hN]) (fun f a hf => hB f _ _ (by omega)) (fun nm _ => mA_nj (by decide)), ?_, Rs_of a7 (by rw [hN]) (fun f a hf _ => hB f _ _ (by omega)) (fun _ _ _ => rfl), fun t' nm h1 h2 h3 => by rw [mA_nj (by decide)]; exact a8 t' nm h1 h2 h3⟩
  · unfold Rg; rw [hF]; exact b1
  · obtain ⟨e1, e2, e3, e4⟩ := b4 t' a q q2
    unfold Rk
    rw [hk 6 _ _ (by decide), hk 7 _ _ (by decide), hk 8 _ _ (by decide), mA_nj (by decide), mA_nj (by decide), mA_nj (by decide)]
    refine ⟨e1, e2, e3, ?_⟩
    by_cases e : t' = t ∧ a = j
    · rw [e.1, e.2, mA_self]
      exact ⟨fun q => absurd q (by decide), fun q => absurd q hd⟩
    · rw [mA_ni (by omega), hB 10 t' a (by omega)]; exact e4
  · intro b hb a q
    rw [hk 6 _ _ (by decide)] at q
    rw [hk 7 _ _ (by decide)]
    exact a6 b hb a q
theorem dm_b {n t a : Nat} (ht : t < n) : ∀ (k i c : Nat) (C : CS) (M : MS), RR n C M → a + i + k ≤ 100 → RR n (spL t k (a + i) c C).2 (mdmL t a k i c M).2 ∧ (spL t k (a + i) c C).1 = (mdmL t a k i c M).1 := by
  intro k
  induction k with
  | zero => intro i c C M hR _; exact ⟨hR, rfl⟩
  | succ k ih =>
    intro i c C M hR hb
    have hk := (hR.1.2.2.1.2.2.2.1 t (a + i) ht (by omega)).2.2.2
    unfold spL mdmL
    rw [show 100 * t + a + i = 100 * t + (a + i) by omega, show a + i + 1 = a + (i + 1) by omega]
    by_cases z : cB C 10 t (a + i) ≠ 0
    · have zm : ¬ mA M 8 (100 * t + (a + i)) = 0 := fun q => z (hk.mp q)
      rw [if_pos z, if_neg zm]
      exact ih (i + 1) c C _ ⟨R0_dmg hR.1 ht (by omega) (Or.inr ⟨rfl, z⟩), hR.2⟩ (by omega)
    · have zm : mA M 8 (100 * t + (a + i)) = 0 := hk.mpr (Classical.byContradiction z)
      rw [if_neg z, if_pos zm]
      exact ih (i + 1) (c + 1) _ _ ⟨R0_dmg hR.1 ht (by omega) (Or.inl rfl), hR.2⟩ (by omega)
theorem nameP_nI {a : Nat} (h : a < 100) : placeP (nI a) := ⟨nI_pos (by omega), fun q => absurd ((nI_leI (a := 100) (b := a) (by decide) (by omega)).mp q) (by omega)⟩
theorem t_damage (l : Launch) (G : GG) (D : CS) {n : Nat} {C : CS} {M : MS} (hR : RR n C M) (hn : n ≤ 12) (x y z : Int32) : ∃ M', Ct l G yX5_damage cX5_damage 6 (some .int) 2 43 [.ref (zad G 12 0), .int x, .int y, .int z] D M (some (.int (damT n C x y z).1)) D M' ∧ RR n (damT n C x y z).2 M' := by
  have hM0 : mF M 0 = nI n := Rn hR.1
  unfold damT
  rcases tape_cases hn x with hb | ⟨t, ht, rfl, hb, htx⟩
  · rw [if_pos hb]; exact ⟨M, m_dam_b l G D M hn hM0 hb y z, hR⟩
  · rw [if_neg hb, htx]
    by_cases hp : placeP y
    · rw [if_pos hp]
      obtain ⟨a, ha, rfl, hax⟩ := place_arg hp
      rw [hax]
      by_cases hz : z < 1 ∨ nI (100 - a) < z
      · rw [if_pos hz]
        exact ⟨M, m_dam_n l G D M hn hM0 ht ha ((inP_plc _).mpr hp) (fun q => hz.elim q.1 q.2), hR⟩
      · rw [if_neg hz]
        have hi : inP z 1 (nI (100 - a)) := ⟨fun q => hz (Or.inl q), fun q => hz (Or.inr q)⟩
        rcases pk_ix z (n := 101) (by decide) with q | q | ⟨k, hk, rfl⟩
        · exact absurd (Or.inl (Int32.lt_trans q (by decide))) hz
        · exact absurd (Or.inr (Int32.lt_of_lt_of_le ((nI_ltI (a := 100 - a) (b := 101) (by omega) (by omega)).mpr (by omega)) q)) hz
        · have h2 : k ≤ 100 - a := Nat.le_of_not_lt (fun q => hz (Or.inr ((nI_ltI (by omega) (by omega)).mpr q)))
          rw [tN_nI (show k < 2 ^ 31 by omega)]
          obtain ⟨r1, r2⟩ := dm_b (a := a) ht k 0 0 C M hR (by omega)
          have r1 : RR n (spL t k a 0 C).2 (mdmL t a k 0 0 M).2 := r1
          have r2 : (spL t k a 0 C).1 = (mdmL t a k 0 0 M).1 := r2
          refine ⟨_, ?_, r1⟩
          rw [r2]
          exact m_dam_1 l G D M hn hM0 ht ha ((inP_plc _).mpr hp) h2 hi
    · rw [if_neg hp]
      exact ⟨M, m_dam_p l G D M hn hM0 ht (fun q => hp ((inP_plc _).mp q)) z, hR⟩
/-! drives and power -/
theorem R0_drv {n d : Nat} {C C' : CS} {M M' : MS} (h : R0 n C M) (hN : cN C' = cN C) (hB : cB C' = cB C) (hM : cM C' = cM C) (hF : ∀ f i k, (f ≠ 3 ∨ i ≠ d) → cF C' f i k = cF C f i k) (hA : ∀ j i, (j ≠ 11 ∧ j ≠ 12) ∨ i ≠ d → mA M' j i = mA M j i) (hmF : mF M' = mF M) (hd : Rd C' M' d) : R0 n C' M' := by
  obtain ⟨a1, a2, ⟨b1, b2, b3, b4, b5⟩, a4, a5, a6, a7, a8⟩ := h
  refine ⟨Iv_of a1 (fun _ => by rw [hN]) (fun _ _ => by rw [hB]) (fun _ => by rw [hN]), fun d => by rw [hM]; exact a2 d, ⟨?_, fun d' q => ?_, fun t q => Rt_of (b3 t q) (by rw [hN]) (by rw [hN]) (fun k => hF _ _ _ (by omega)) (fun j i _ _ => hA j i (by omega)), fun t a q q2 => Rk_of (b4 t a q q2) (by rw [hN]) (fun f _ => by rw [hB]) (fun j i _ _ => hA j i (by omega)), Bk_all b5 (fun j i _ _ => hA j i (by omega))⟩, fun d' hd' => by rw [hA _ _ (by omega)]; exact a4 d' hd', fun t ht => (a5 t ht).of (fun _ => by rw [hB]) (by rw [hN]; exact Nat.le_refl _) (fun _ _ _ _ => by rw [hB]) (fun nm _ => hA _ _ (by omega)), Hh_of a6 (fun f b a => by unfold kAt; rw [hN, hB]), Rs_of a7 (by rw [hN]) (fun _ _ _ _ => by rw [hB]) (fun _ _ _ => by rw [hmF]), fun t' nm h1 h2 h3 => by rw [hA _ _ (by omega)]; exact a8 t' nm h1 h2 h3⟩
  · unfold Rg; rw [hmF, hF 0 0 7 (by omega), hF 1 0 0 (by omega), hF 1 0 1 (by omega), hF 1 0 2 (by omega)]; exact b1
  · by_cases e : d' = d
    · rw [e]; exact hd
    · have := b2 d' q
      unfold Rd at this ⊢
      rw [hF _ _ _ (Or.inr e), hF _ _ _ (Or.inr e), hF _ _ _ (Or.inr e), hF _ _ _ (Or.inr e), hA _ _ (Or.inr e), hA _ _ (Or.inr e), hA _ _ (Or.inr e), hA _ _ (Or.inr e)]
      exact this
theorem drv_cases (x : Int32) : badT 3 x ∨ ∃ d, d < 3 ∧ x = nI d ∧ ¬ badT 3 x ∧ tN x = d := tape_cases (by decide) x
theorem t_jam (l : Launch) (G : GG) (D : CS) {n : Nat} {C : CS} {M : MS} (hR : RR n C M) (x z : Int32) : ∃ M', Ct l G yX5_jam cX5_jam 3 (some .int) 1 22 [.ref (zad G 12 0), .int x, .int z] D M (some (.int (jamT C x z).1)) D M' ∧ RR n (jamT C x z).2 M' := by
  unfold jamT
  rcases drv_cases x with hb | ⟨d, hd, rfl, hb, hdx⟩
  · rw [if_pos hb]; exact ⟨M, m_jam_b l G D M (fun q => (inP_drv x).mp q hb) z, hR⟩
  · rw [if_neg hb, hdx]
    have hi := (inP_drv (nI d)).mpr hb
    obtain ⟨e1, e2, e3, e4⟩ := hR.1.2.2.1.2.1 d hd
    unfold jamC
    by_cases hj : cF C 3 d 4 = 0
    · rw [if_pos hj]
      have hjm : mA M 11 d = 0 := e1.trans hj
      by_cases z1 : z < -1
      · rw [if_pos z1]; exact ⟨M, m_jam_n l G D M hd hi hjm (fun q => q.1 z1), hR⟩
      · rw [if_neg z1]
        by_cases z2 : z ≤ 1000
        · rw [if_pos z2]
          refine ⟨_, m_jam_1 l G D M hd hi hjm ⟨z1, Int32.not_lt.mpr z2⟩, R0_drv (d := d) hR.1 rfl rfl rfl (fun f i k q => by rw [cF_sF, if_neg (by omega)]) (fun j i q => by rw [mA_smA, if_neg (by omega)]) rfl ?_, hR.2⟩
          unfold Rd
          simp [cF_sF, mA_smA, e1, e3, e4]
        · rw [if_neg z2]; exact ⟨M, m_jam_n l G D M hd hi hjm (fun q => z2 (Int32.not_lt.mp q.2)), hR⟩
    · rw [if_neg hj]; exact ⟨M, m_jam_j l G D M hd hi (by rw [e1]; exact hj) z, hR⟩
theorem t_fix (l : Launch) (G : GG) (D : CS) {n : Nat} {C : CS} {M : MS} (hR : RR n C M) (x : Int32) : ∃ M', Ct l G yX5_fix cX5_fix 3 (some .int) 1 22 [.ref (zad G 12 0), .int x] D M (some (.int (fixT C x).1)) D M' ∧ RR n (fixT C x).2 M' := by
  unfold fixT
  rcases drv_cases x with hb | ⟨d, hd, rfl, hb, hdx⟩
  · rw [if_pos hb]; exact ⟨M, m_fix_b l G D M (fun q => (inP_drv x).mp q hb), hR⟩
  · rw [if_neg hb, hdx]
    have hi := (inP_drv (nI d)).mpr hb
    obtain ⟨e1, e2, e3, e4⟩ := hR.1.2.2.1.2.1 d hd
    have := m_fix_1 l G D M hd hi
    have eb : bI (mA M 11 d ≠ 0) = if cF C 3 d 4 = 0 then 0 else 1 := by
      unfold bI; rw [e1]
      by_cases q : cF C 3 d 4 = 0
      · rw [if_pos q, if_neg (fun w => w q)]
      · rw [if_neg q, if_pos q]
    rw [eb] at this
    refine ⟨_, this, R0_drv (d := d) hR.1 rfl rfl rfl (fun f i k q => by rw [cF_sF, if_neg (by omega), cF_sF, if_neg (by omega)]) (fun j i q => by rw [mA_smA, if_neg (by omega), mA_smA, if_neg (by omega)]) rfl ?_, hR.2⟩
    unfold Rd
    simp [cF_sF, mA_smA, e3, e4]
theorem t_power (l : Launch) (G : GG) (D : CS) {n : Nat} {C : CS} {M : MS} (hR : RR n C M) (x : Int32) : ∃ M', Ct l G yX5_power cX5_power 2 (some .int) 1 22 [.ref (zad G 12 0), .int x] D M (some (.int (powT C x).1)) D M' ∧ RR n (powT C x).2 M' := by
  unfold powT
  by_cases z1 : x < -1
  · rw [if_pos z1]; exact ⟨M, m_pow_b l G D M (fun q => q.1 z1), hR⟩
  · rw [if_neg z1]
    by_cases z2 : x ≤ 100000
    · rw [if_pos z2]
      refine ⟨_, m_pow_1 l G D M ⟨z1, Int32.not_lt.mpr z2⟩, ?_, hR.2⟩
      obtain ⟨a1, a2, ⟨⟨g0, g1, g2, g3, g4⟩, b2, b3, b4⟩, a4, a5, a6, a7, a8⟩ := hR.1
      refine ⟨a1, a2, ⟨?_, fun d q => Rd_of (b2 d q) (fun k => by rw [cF_sF, if_neg (by omega)]) (fun _ _ _ _ => rfl), fun t q => Rt_of (b3 t q) rfl rfl (fun k => by rw [cF_sF, if_neg (by omega)]) (fun _ _ _ _ => rfl), b4⟩, a4, fun t ht => (a5 t ht).of (fun _ => rfl) (Nat.le_refl _) (fun _ _ _ _ => rfl) (fun _ _ => rfl), a6, Rs_of a7 rfl (fun _ _ _ _ => rfl) (fun k h1 h2 => by rw [mF_smF, if_neg (by omega)]), a8⟩
      unfold Rg; simp [cF_sF, mF_smF, g0, g1, g2, g3]
    · rw [if_neg z2]; exact ⟨M, m_pow_b l G D M (fun q => z2 (Int32.not_lt.mp q.2)), hR⟩
/-! what is told -/
theorem t_place (l : Launch) (G : GG) (D : CS) {n : Nat} {C : CS} {M : MS} (hR : RR n C M) (hn : n ≤ 12) (x y : Int32) : Ct l G yX5_place cX5_place 4 (some .int) 2 43 [.ref (zad G 12 0), .int x, .int y] D M (some (.int (plaT n C x y))) D M := by
  have hM0 : mF M 0 = nI n := Rn hR.1
  by_cases hx : nameP x
  · unfold plaT
    rcases tape_cases hn y with hb | ⟨t, ht, rfl, hb, htx⟩
    · rw [if_pos hb]; exact m_pla_b l G D M hn hM0 hx hb
    · rw [if_neg hb, if_pos hx, htx]
      obtain ⟨nm, hnm, rfl⟩ := name_arg hx
      cases hl : lh C t (nI nm) with
      | none => exact m_pla_0 l G D M hn hM0 ht hnm hx (cat_none (hR.1.2.2.2.2.1 t ht) hnm hl)
      | some h =>
        have k := Kn_of hR.1 ht hnm hl
        exact m_pla_1 l G D M hn hM0 ht hnm hx (pp := h) (by omega) k.1
  · have e : plaT n C x y = -1 := by
      unfold plaT
      by_cases q : badT n y
      · rw [if_pos q]
      · rw [if_neg q, if_neg hx]
    rw [e]
    exact m_pla_n l G D M hx y
theorem inP_no {w hi : Int32} {k : Nat} (hk : hi.toInt = k) (h : w.toInt < 0 ∨ (k : Int) < w.toInt) : ¬ inP w 0 hi := by
  intro q
  have h3 : (0 : Int32).toInt = 0 := rfl
  rcases h with h | h
  · exact q.1 (Int32.lt_iff_toInt_lt.mpr (by rw [h3]; exact h))
  · exact q.2 (Int32.lt_iff_toInt_lt.mpr (by rw [hk]; exact h))
theorem bI_dmg {C : CS} {M : MS} {t a : Nat} (ha : a < 100) (h : mA M 8 (100 * t + a) = 0 ↔ cB C 10 t a = 0) : bI (mA M 8 (100 * t + a) ≠ 0) = bI (dmgP C t a) := bI_c ⟨fun q => ⟨ha, fun w => q (h.mpr w)⟩, fun q w => q.2 (h.mp w)⟩
theorem t_block (l : Launch) (G : GG) (D : CS) {n : Nat} {C : CS} {M : MS} (hR : RR n C M) (hn : n ≤ 12) (x y w : Int32) : Ct l G yX5_block cX5_block 5 (some .int) 2 43 [.ref (zad G 12 0), .int x, .int y, .int w] D M (some (.int (bloT n C x y w))) D M := by
  have hM0 : mF M 0 = nI n := Rn hR.1
  unfold bloT
  rcases tape_cases hn x with hb | ⟨t, ht, rfl, hb, htx⟩
  · rw [if_pos hb]; exact m_blo_b l G D M hn hM0 hb y w
  · rw [if_neg hb, htx]
    by_cases hp : placeP y
    · rw [if_pos hp]
      obtain ⟨a, ha, rfl, hax⟩ := place_arg hp
      rw [hax]
      have hi := (inP_plc (nI a)).mpr hp
      obtain ⟨r1, r2, r3, r4⟩ := hR.1.2.2.1.2.2.2.1 t a ht ha
      have main : ∀ w, inP w 0 3 → mblo M (100 * t + a) w = bloC C t a w → Ct l G yX5_block cX5_block 5 (some .int) 2 43 [.ref (zad G 12 0), .int (nI t), .int (nI a), .int w] D M (some (.int (bloC C t a w))) D M := fun w h1 h2 => by
        rw [← h2]; exact m_blo_1 l G D M hn hM0 ht ha hi h1
      rcases sw4 w with rfl | rfl | rfl | rfl | ⟨w0, w1, w2, w3, wn⟩
      · exact main 0 ⟨by decide, by decide⟩ r1
      · exact main 1 ⟨by decide, by decide⟩ r2
      · exact main 2 ⟨by decide, by decide⟩ r3
      · exact main 3 ⟨by decide, by decide⟩ (bI_dmg ha r4)
      · have e : bloC C t a w = -1 := by unfold bloC; rw [if_neg w0, if_neg w1, if_neg w2, if_neg w3]
        rw [e]; exact m_blo_w l G D M hn hM0 ht ha hi (inP_no (k := 3) rfl wn)
    · rw [if_neg hp]; exact m_blo_p l G D M hn hM0 ht (fun q => hp ((inP_plc _).mp q)) w
theorem t_tapeTold (l : Launch) (G : GG) (D : CS) {n : Nat} {C : CS} {M : MS} (hR : RR n C M) (hn : n ≤ 12) (x w : Int32) : Ct l G yX5_tapeTold cX5_tapeTold 3 (some .int) 2 43 [.ref (zad G 12 0), .int x, .int w] D M (some (.int (ttT n C x w))) D M := by
  have hM0 : mF M 0 = nI n := Rn hR.1
  unfold ttT
  rcases tape_cases hn x with hb | ⟨t, ht, rfl, hb, htx⟩
  · rw [if_pos hb]; exact m_tt_b l G D M hn hM0 hb w
  · rw [if_neg hb, htx]
    obtain ⟨r1, r2, r3, r4⟩ := hR.1.2.2.1.2.2.1 t ht
    have main : ∀ w, inP w 0 3 → mtt M t w = ttC C t w → Ct l G yX5_tapeTold cX5_tapeTold 3 (some .int) 2 43 [.ref (zad G 12 0), .int (nI t), .int w] D M (some (.int (ttC C t w))) D M := fun w h1 h2 => by
      rw [← h2]; exact m_tt_1 l G D M hn hM0 ht h1
    rcases sw4 w with rfl | rfl | rfl | rfl | ⟨w0, w1, w2, w3, wn⟩
    · exact main 0 ⟨by decide, by decide⟩ r1
    · exact main 1 ⟨by decide, by decide⟩ r2
    · exact main 2 ⟨by decide, by decide⟩ r3
    · exact main 3 ⟨by decide, by decide⟩ r4
    · have e : ttC C t w = -1 := by unfold ttC; rw [if_neg w0, if_neg w1, if_neg w2, if_neg w3]
      rw [e]; exact m_tt_w l G D M hn hM0 ht (inP_no (k := 3) rfl wn)
theorem t_driveTold (l : Launch) (G : GG) (D : CS) {n : Nat} {C : CS} {M : MS} (hR : RR n C M) (x w : Int32) : Ct l G yX5_driveTold cX5_driveTold 3 (some .int) 1 22 [.ref (zad G 12 0), .int x, .int w] D M (some (.int (dtT C x w))) D M := by
  unfold dtT
  rcases drv_cases x with hb | ⟨d, hd, rfl, hb, hdx⟩
  · rw [if_pos hb]; exact m_dt_b l G D M (fun q => (inP_drv x).mp q hb) w
  · rw [if_neg hb, hdx]
    have hi := (inP_drv (nI d)).mpr hb
    obtain ⟨r1, r2, r3, r4⟩ := hR.1.2.2.1.2.1 d hd
    have main : ∀ w, inP w 0 2 → mdt M d w = dtC C d w → Ct l G yX5_driveTold cX5_driveTold 3 (some .int) 1 22 [.ref (zad G 12 0), .int (nI d), .int w] D M (some (.int (dtC C d w))) D M := fun w h1 h2 => by
      rw [← h2]; exact m_dt_1 l G D M hd hi h1
    have eb : bI (mA M 11 d ≠ 0) = if cF C 3 d 4 = 0 then 0 else 1 := by
      unfold bI; rw [r1]
      by_cases q : cF C 3 d 4 = 0
      · rw [if_pos q, if_neg (fun w => w q)]
      · rw [if_neg q, if_pos q]
    rcases sw3 w with rfl | rfl | rfl | ⟨w0, w1, w2, wn⟩
    · exact main 0 ⟨by decide, by decide⟩ r3
    · exact main 1 ⟨by decide, by decide⟩ r4
    · exact main 2 ⟨by decide, by decide⟩ eb
    · have e : dtC C d w = -1 := by unfold dtC; rw [if_neg w0, if_neg w1, if_neg w2]
      rw [e]; exact m_dt_w l G D M hd hi (inP_no (k := 2) rfl wn)
theorem t_told (l : Launch) (G : GG) (D : CS) {n : Nat} {C : CS} {M : MS} (hR : RR n C M) (w : Int32) : Ct l G yX5_told cX5_told 2 (some .int) 0 0 [.ref (zad G 12 0), .int w] D M (some (.int (toT C w))) D M := by
  have e : toT C w = mto M w := by
    obtain ⟨g0, g1, g2, g3, g4⟩ := hR.1.2.2.1.1
    unfold toT mto; rw [g2, g3, g4, hR.2.1, hR.2.2]
  rw [e]; exact m_told l G D M w
theorem t_fold (l : Launch) (G : GG) (D : CS) {n : Nat} {C : CS} {M : MS} (hR : RR n C M) : Ct l G yX5_fold cX5_fold 1 (some .int) 0 0 [.ref (zad G 12 0)] D M (some (.int (cF C 0 0 7))) D M := by
  rw [← hR.1.2.2.1.1.2.1]; exact m_fold l G D M
