/-! ===== the class: Drive ===== -/
def dist (h d : Nat) : Nat := (if 8 + 8 * d ≤ h then h - (8 + 8 * d) else 8 + 8 * d - h) + 1
theorem dist_c : ∀ h, h < 32 → ∀ d, d < 3 → (if 0 ≤ nI h - nI (8 + 8 * d) then nI h - nI (8 + 8 * d) else 0 - (nI h - nI (8 + 8 * d))) + 1 = nI (dist h d) := by decide +kernel
theorem dist_le {h d : Nat} (hh : h < 32) (hd : d < 3) : dist h d ≤ 32 ∧ 0 < dist h d := by unfold dist; split <;> omega
def carL (d : Nat) : Nat → CS → Int32 × CS
  | 0, C => (0, C)
  | k + 1, C => if cF C 1 0 2 ≠ 0 then carL d k (sN (wkC C) 3 d 7 (cN (wkC C) 3 d 7 + 1)) else (-4, wkC C)
def carE (d t : Nat) (q : Int32 × CS) : Int32 × CS := if q.1 = 0 then (0, sF (sF q.2 3 d 2 (cF q.2 3 d 2 + 1)) 9 t 4 (cF q.2 9 t 4 + 1)) else q
def carC (C : CS) (d t : Nat) : Int32 × CS := carE d t (carL d (dist (cN C 9 t 0) d) (sN (sN (sM C d (some t)) 3 d 8 0) 3 d 7 0))
def windL (d : Nat) : Nat → CS → Int32 × CS
  | 0, C => (0, C)
  | k + 1, C => if cF C 1 0 2 ≠ 0 then windL d k (sN (wkC C) 3 d 8 (cN (wkC C) 3 d 8 + 1)) else (-4, wkC C)
def windC (C : CS) (d q : Nat) : Int32 × CS := windL d (q - cN C 3 d 8) C
def pas1 (C : CS) (d : Nat) : CS := if cF C 3 d 5 ≤ 0 then C else sF C 3 d 5 (cF C 3 d 5 - 1)
def pas2 (C : CS) (d : Nat) : CS := sN (sF (pas1 C d) 3 d 3 (cF (pas1 C d) 3 d 3 + 1)) 3 d 8 (cN (pas1 C d) 3 d 8 + 1)
def pasC (C : CS) (d : Nat) : Int32 × CS := if cF C 3 d 5 ≠ 0 then (if cF C 1 0 2 ≠ 0 then (0, pas2 (wkC C) d) else (-4, wkC C)) else (-5, sF C 3 d 4 1)
def reaC (C : CS) (d t : Nat) : Int32 × CS := if (pasC C d).1 ≠ 0 then pasC C d else if dmgP (pasC C d).2 t (cN C 3 d 8) then (-7, (pasC C d).2) else ((pasC C d).1, (pasC C d).2)
def wriC (C : CS) (d t b a : Nat) : Int32 × CS := if cap t ≤ cN C 5 t 3 then (-6, C) else if (pasC C d).1 ≠ 0 then pasC C d else ((pasC C d).1, addC (pasC C d).2 t (kAt (pasC C d).2 6 b a) (kAt (pasC C d).2 7 b a) (kAt (pasC C d).2 8 b a))
def clo1 (C : CS) (b : Nat) : CS := addC (sF C 1 0 1 (cF C 1 0 1 + 1)) b 4 0 0
def cloC (C : CS) (d b : Nat) : CS := if cF C 3 d 4 ≠ 0 then C else if cap b ≤ cN C 5 b 3 then C else sN (clo1 C b) 3 d 8 (cN (clo1 C b) 5 b 3)
def endC (C : CS) (d t h : Nat) (w : Int32) : Int32 × CS := if w ≠ 0 then (w, if cN C 5 t 3 ≤ h then C else cloC C d t) else (nI h, C)
def ltL (d t : Nat) : Nat → Int32 → CS → Int32 × CS
  | 0, w, C => (w, C)
  | k + 1, w, C => if w = 0 ∨ w = -7 then ltL d t k (reaC C d t).1 (reaC C d t).2 else (w, C)
def lookC (C : CS) (d t : Nat) : Int32 × CS := (if (ltL d t (cN C 5 t 3) 0 C).1 = -7 then 0 else (ltL d t (cN C 5 t 3) 0 C).1, (ltL d t (cN C 5 t 3) 0 C).2)
def bri1 (C : CS) (d : Nat) : CS := sF C 1 0 1 (cF C 1 0 1 + nI (if cF C 3 d 4 = 0 then cN C 3 d 8 else 3 * cN C 3 d 8))
def bri2 (C : CS) (d t : Nat) : CS := sF (bri1 C d) 9 t 5 (cF C 9 t 5 + nI (cN C 3 d 8))
def briC (C : CS) (d t : Nat) : CS := sM (sF (bri2 C d t) 1 0 1 (cF (bri2 C d t) 1 0 1 + nI (cN C 3 d 7))) d none
/-! what they keep -/
theorem wkC_N (C : CS) : cN (wkC C) = cN C := by unfold wkC; split; rfl; split <;> rfl
theorem wkC_B (C : CS) : cB (wkC C) = cB C := by unfold wkC; split; rfl; split <;> rfl
theorem wkC_M (C : CS) : cM (wkC C) = cM C := by unfold wkC; split; rfl; split <;> rfl
theorem wkC_F (C : CS) (f i k : Nat) (h : f ≠ 1) : cF (wkC C) f i k = cF C f i k := by
  unfold wkC; split
  · rw [cF_sF, if_neg (by omega)]
  · split
    · rw [cF_sF, if_neg (by omega)]
    · rw [cF_sF, if_neg (by omega), cF_sF, if_neg (by omega)]
theorem Iv_of {C C' : CS} (hI : Iv C) (h1 : ∀ b, cN C' 5 b 3 = cN C 5 b 3) (h2 : ∀ b j, cB C' 8 b j = cB C 8 b j) (h3 : ∀ t, cN C' 9 t 0 = cN C 9 t 0) : Iv C' :=
  ⟨fun b => by rw [h1]; exact hI.1 b, fun b j => by rw [h2]; exact hI.2.1 b j, fun t => by rw [h3]; exact hI.2.2 t⟩
theorem Iv_wk {C : CS} (hI : Iv C) : Iv (wkC C) := Iv_of hI (fun b => by rw [wkC_N]) (fun b j => by rw [wkC_B]) (fun t => by rw [wkC_N])
theorem Iv_N {C : CS} {d k v : Nat} (hI : Iv C) : Iv (sN C 3 d k v) := Iv_of hI (fun b => by rw [cN_sN, if_neg (by omega)]) (fun b j => rfl) (fun t => by rw [cN_sN, if_neg (by omega)])
theorem pas1_N (C : CS) (d : Nat) : cN (pas1 C d) = cN C := by unfold pas1; split <;> rfl
theorem pas1_B (C : CS) (d : Nat) : cB (pas1 C d) = cB C := by unfold pas1; split <;> rfl
theorem pas1_M (C : CS) (d : Nat) : cM (pas1 C d) = cM C := by unfold pas1; split <;> rfl
theorem pasC_M (C : CS) (d : Nat) : cM (pasC C d).2 = cM C := by
  unfold pasC; split
  · split
    · show cM (pas2 (wkC C) d) = _
      unfold pas2; rw [cM_sN, cM_sF, pas1_M, wkC_M]
    · exact wkC_M C
  · rfl
theorem pasC_B (C : CS) (d : Nat) : cB (pasC C d).2 = cB C := by
  unfold pasC; split
  · split
    · show cB (pas2 (wkC C) d) = _
      unfold pas2; rw [cB_sN, cB_sF, pas1_B, wkC_B]
    · exact wkC_B C
  · rfl
theorem pasC_N (C : CS) (d f i k : Nat) (h : f ≠ 3 ∨ k ≠ 8 ∨ i ≠ d) : cN (pasC C d).2 f i k = cN C f i k := by
  unfold pasC; split
  · split
    · show cN (pas2 (wkC C) d) f i k = _
      unfold pas2; rw [cN_sN, if_neg (by omega), cN_sF, pas1_N, wkC_N]
    · show cN (wkC C) f i k = _
      rw [wkC_N]
  · rfl
theorem pasC_pos (C : CS) (d : Nat) : cN (pasC C d).2 3 d 8 ≤ cN C 3 d 8 + 1 := by
  unfold pasC; split
  · split
    · show cN (pas2 (wkC C) d) 3 d 8 ≤ _
      unfold pas2; rw [cN_sN, if_pos ⟨rfl, rfl, rfl⟩, pas1_N, wkC_N]; exact Nat.le_refl _
    · show cN (wkC C) 3 d 8 ≤ _
      rw [wkC_N]; omega
  · show cN C 3 d 8 ≤ _
    omega
theorem Iv_pas {C : CS} {d : Nat} (hI : Iv C) : Iv (pasC C d).2 := Iv_of hI (fun b => pasC_N _ _ _ _ _ (by omega)) (fun b j => by rw [pasC_B]) (fun t => pasC_N _ _ _ _ _ (by omega))
theorem reaC_2 (C : CS) (d t : Nat) : (reaC C d t).2 = (pasC C d).2 := by unfold reaC; split; rfl; split <;> rfl
theorem Iv_add {C : CS} {b : Nat} {k v z : Int32} (hI : Iv C) (hz : z = nI z.toNatClampNeg ∧ z.toNatClampNeg ≤ 30) : Iv (addC C b k v z) := by
  unfold addC
  split
  · exact hI
  · refine ⟨fun b' => ?_, fun b' j => ?_, fun t => ?_⟩
    · rw [cN_sN]; split
      · rename_i h1 h2; have := h2.2.2; subst this; omega
      · exact hI.1 b'
    · rw [cB_sN, cB_sB]; split
      · exact hz
      · rw [cB_sB, if_neg (by omega), cB_sB, if_neg (by omega)]; exact hI.2.1 b' j
    · rw [cN_sN, if_neg (by omega)]; exact hI.2.2 t
theorem addC_M (C : CS) (b : Nat) (k v z : Int32) : cM (addC C b k v z) = cM C := by unfold addC; split <;> rfl
theorem addC_F (C : CS) (b : Nat) (k v z : Int32) : cF (addC C b k v z) = cF C := by unfold addC; split <;> rfl
theorem kAt_cl {C : CS} (hI : Iv C) (b a : Nat) : kAt C 8 b a = nI (kAt C 8 b a).toNatClampNeg ∧ (kAt C 8 b a).toNatClampNeg ≤ 30 := by
  unfold kAt; split
  · exact hI.2.1 b a
  · exact ⟨rfl, by decide⟩

set_option maxHeartbeats 4000000 in
set_option maxRecDepth 100000 in
theorem c_X1_isReady_n (l : Launch) (G : GG) (C : CS) (M : MS) {d : Nat} (hd : d < 3) (hM : cM C d = none) : Ct l G yX1_isReady cX1_isReady 1 (some .boolean) 0 0 [.ref (zad G 3 d)] C M (some (.int (bI (cF C 3 d 4 = 0 ∧ cM C d = none)))) C M := by
  refine Ct_z (by decide) (Nat.le_of_ble_eq_true rfl) (bI_01 _) (fun {p e s m args below meth c A Q ls} hC hW hl hE => ?_)
  have hx := hC.1
  have hb := hC.2.1
  have hl : lv_has ls 1 [(0, .ref (zad G 3 d))] := hl
  refine lv_aload_n hx hb dX1_isReady_0 rfl (lv_at hl 0 rfl) ?_
  refine g3 (k := 4) (v := .int (cF C 3 d 4)) hC hW hd (by decide) mF_X1_22 rfl dX1_isReady_1 ?_
  refine lv_if_ne (tgt := 18) hx hb dX1_isReady_4 (by decide) (fun h4 => ?_) (fun h4 => ?_)
  · refine lv_iconst (v := 0) hx hb dX1_isReady_18 (by decide) ?_
    have qr : (0 : Int32) = bI (cF C 3 d 4 = 0 ∧ cM C d = none) := by simp [bI, hM, h4]
    exact hE hW qr dX1_isReady_19
  · refine lv_aload_n hx hb dX1_isReady_7 rfl (lv_at hl 0 rfl) ?_
    refine g3 (k := 6) (v := .null) hC hW hd (by decide) mF_X1_26 (by simp [fsD, va_rf, hM, cF_sF, cN_sN, cB_sB, cM_sM, cN_sF, cB_sF, cM_sF, cF_sN, cB_sN, cM_sN, cF_sB, cN_sB, cM_sB, cF_sM, cN_sM, cB_sM, mF_smF, mA_smF, mF_smA, mA_smA]) dX1_isReady_8 ?_
    refine lv_ifnonnullN hx hb dX1_isReady_11 ?_
    refine lv_iconst (v := 1) hx hb dX1_isReady_14 (by decide) ?_
    refine lv_goto (tgt := 19) hx hb dX1_isReady_15 (by decide) ?_
    have qr : (1 : Int32) = bI (cF C 3 d 4 = 0 ∧ cM C d = none) := by simp [bI, hM, h4]
    exact hE hW qr dX1_isReady_19

set_option maxHeartbeats 4000000 in
set_option maxRecDepth 100000 in
theorem c_X1_isReady_s (l : Launch) (G : GG) (C : CS) (M : MS) {d : Nat} (hd : d < 3) {t : Nat} (ht : t < zn G) (hM : cM C d = some t) : Ct l G yX1_isReady cX1_isReady 1 (some .boolean) 0 0 [.ref (zad G 3 d)] C M (some (.int (bI (cF C 3 d 4 = 0 ∧ cM C d = none)))) C M := by
  refine Ct_z (by decide) (Nat.le_of_ble_eq_true rfl) (bI_01 _) (fun {p e s m args below meth c A Q ls} hC hW hl hE => ?_)
  have hx := hC.1
  have hb := hC.2.1
  have hl : lv_has ls 1 [(0, .ref (zad G 3 d))] := hl
  refine lv_aload_n hx hb dX1_isReady_0 rfl (lv_at hl 0 rfl) ?_
  refine g3 (k := 4) (v := .int (cF C 3 d 4)) hC hW hd (by decide) mF_X1_22 rfl dX1_isReady_1 ?_
  refine lv_if_ne (tgt := 18) hx hb dX1_isReady_4 (by decide) (fun h4 => ?_) (fun h4 => ?_)
  · refine lv_iconst (v := 0) hx hb dX1_isReady_18 (by decide) ?_
    have qr : (0 : Int32) = bI (cF C 3 d 4 = 0 ∧ cM C d = none) := by simp [bI, hM, h4]
    exact hE hW qr dX1_isReady_19
  · refine lv_aload_n hx hb dX1_isReady_7 rfl (lv_at hl 0 rfl) ?_
    refine g3 (k := 6) (v := .ref (zad G 9 t)) hC hW hd (by decide) mF_X1_26 (by simp [fsD, va_rf, hM, cF_sF, cN_sN, cB_sB, cM_sM, cN_sF, cB_sF, cM_sF, cF_sN, cB_sN, cM_sN, cF_sB, cN_sB, cM_sB, cF_sM, cN_sM, cB_sM, mF_smF, mA_smF, mF_smA, mA_smA]) dX1_isReady_8 ?_
    refine lv_ifnonnull (tgt := 18) hx hb dX1_isReady_11 (by decide) ?_
    refine lv_iconst (v := 0) hx hb dX1_isReady_18 (by decide) ?_
    have qr : (0 : Int32) = bI (cF C 3 d 4 = 0 ∧ cM C d = none) := by simp [bI, hM, h4]
    exact hE hW qr dX1_isReady_19

theorem c_X1_isReady (l : Launch) (G : GG) (C : CS) (M : MS) {d : Nat} (hd : d < 3) (hT : ∀ t, cM C d = some t → t < zn G) : Ct l G yX1_isReady cX1_isReady 1 (some .boolean) 0 0 [.ref (zad G 3 d)] C M (some (.int (bI (cF C 3 d 4 = 0 ∧ cM C d = none)))) C M := by
  cases hM : cM C d with
  | none => have h := c_X1_isReady_n l G C M hd hM; rw [hM] at h; exact h
  | some t => have h := c_X1_isReady_s l G C M hd (hT t hM) hM; rw [hM] at h; exact h

set_option maxHeartbeats 4000000 in
set_option maxRecDepth 100000 in
theorem c_X1_distance (l : Launch) (G : GG) (C : CS) (M : MS) {d : Nat} (hd : d < 3) {t : Nat} (ht : t < zn G) (hI : Iv C) : Ct l G yX1_distance cX1_distance 2 (some .int) 1 20 [.ref (zad G 3 d), .ref (zad G 9 t)] C M (some (.int (nI (dist (cN C 9 t 0) d)))) C M := by
  refine Ct_i (by decide) (Nat.le_of_ble_eq_true rfl) (fun {p e s m args below meth c A Q ls} hC hW hl hE => ?_)
  have hx := hC.1
  have hb := hC.2.1
  have hl : lv_has ls 2 [(0, .ref (zad G 3 d)), (1, .ref (zad G 9 t))] := hl
  refine lv_aload_n hx hb dX1_distance_0 rfl (lv_at hl 1 rfl) ?_
  refine g9 (k := 0) (v := .int (nI (cN C 9 t 0))) hC hW ht (by decide) mF_X1_30 rfl dX1_distance_1 ?_
  refine lv_aload_n hx hb dX1_distance_4 rfl (lv_at hl 0 rfl) ?_
  refine g3 (k := 0) (v := .int (nI (8 + 8 * d))) hC hW hd (by decide) mF_X1_15 rfl dX1_distance_5 ?_
  refine lv_isub hx hb dX1_distance_8 ?_
  refine va_mabs hx hb (hC.2.2.1.trans hl.1.symm) hC.2.2.2.1 (hC.2.2.2.2 _ mM_X1_35) (hC.2.2.2.2 _ mT_J9_abs_0f7a4) (hC.2.2.2.2 _ mN_J9) (hC.2.2.2.2 _ mC_J9_abs_0f7a4) (Nat.le_of_ble_eq_true rfl) (Nat.le_of_ble_eq_true rfl) (Nat.zero_le _) (Nat.zero_le _) dX1_distance_9 ?_
  refine lv_iconst (v := 1) hx hb dX1_distance_12 (by decide) ?_
  refine lv_iadd hx hb dX1_distance_13 ?_
  have qr : ((if 0 ≤ ((nI (cN C 9 t 0)) - (nI (8 + 8 * d))) then ((nI (cN C 9 t 0)) - (nI (8 + 8 * d))) else 0 - ((nI (cN C 9 t 0)) - (nI (8 + 8 * d)))) + 1 : Int32) = nI (dist (cN C 9 t 0) d) := by exact dist_c _ (hI.2.2 t) _ hd
  exact hE hW qr dX1_distance_14

set_option maxHeartbeats 4000000 in
set_option maxRecDepth 100000 in
theorem c_X1_carry (l : Launch) (G : GG) (C : CS) (M : MS) {d : Nat} (hd : d < 3) {t : Nat} (ht : t < zn G) (hI : Iv C) : Ct l G yX1_carry cX1_carry 3 (some .int) 2 41 [.ref (zad G 3 d), .ref (zad G 9 t)] C M (some (.int ((carC C d t).1))) ((carC C d t).2) M := by
  refine Ct_i (by decide) (Nat.le_of_ble_eq_true rfl) (fun {p e s m args below meth c A Q ls} hC hW hl hE => ?_)
  have hx := hC.1
  have hb := hC.2.1
  have hl : lv_has ls 3 [(0, .ref (zad G 3 d)), (1, .ref (zad G 9 t))] := hl
  have hI1 : Iv (sN (sM C d (some t)) 3 d 8 0) := Iv_N (Iv_M hI)
  refine lv_aload_n hx hb dX1_carry_0 rfl (lv_at hl 0 rfl) ?_
  refine lv_aload_n hx hb dX1_carry_1 rfl (lv_at hl 1 rfl) ?_
  refine p3M (t := t) hC hW hd mF_X1_26 dX1_carry_2 (fun _ eS H locs hW => ?_)
  subst eS
  refine lv_aload_n hx hb dX1_carry_5 rfl (lv_at hl 0 rfl) ?_
  refine lv_iconst (v := 0) hx hb dX1_carry_6 (by decide) ?_
  refine p3N (k := 8) (v := 0) hC hW hd (by decide) rfl mF_X1_41 dX1_carry_7 (fun _ eS H locs hW => ?_)
  subst eS
  refine lv_aload_n hx hb dX1_carry_10 rfl (lv_at hl 0 rfl) ?_
  refine lv_aload_n hx hb dX1_carry_11 rfl (lv_at hl 1 rfl) ?_
  refine z_callV (As := [.ref (zad G 9 t)]) (rest := []) (st1 := [.int (nI (dist (cN C 9 t 0) d))]) hC hW (LL_3 hd) rfl rfl rfl (c_X1_distance l G (sN (sM C d (some t)) 3 d 8 0) M hd ht (hI1)) mw_X1_distance mv_X1_distance mM_X1_44 ⟨Nat.le_of_ble_eq_true rfl, Nat.le_of_ble_eq_true rfl⟩ rfl rfl hl.1 (lv_room (Nat.le_of_ble_eq_true rfl)) dX1_carry_12 rfl (fun H locs hW => ?_) ⟨Nat.zero_le _, Nat.zero_le _⟩
  refine lv_istore_n (lv' := [(2, .int (nI (dist (cN C 9 t 0) d))), (0, .ref (zad G 3 d)), (1, .ref (zad G 9 t))]) hx hb dX1_carry_15 rfl hl (by decide) rfl (fun ls hl => ?_)
  refine lv_aload_n hx hb dX1_carry_16 rfl (lv_at hl 1 rfl) ?_
  refine lv_iconst (v := 0) hx hb dX1_carry_17 (by decide) ?_
  refine p3N (k := 7) (v := 0) hC hW hd (by decide) rfl mF_X1_48 dX1_carry_18 (fun _ eS H locs hW => ?_)
  subst eS
  have lp : ∀ (k : Nat) (Cj : CS), cN Cj 3 d 7 + k = dist (cN C 9 t 0) d → carL d k Cj = carL d (dist (cN C 9 t 0) d) (sN (sN (sM C d (some t)) 3 d 8 0) 3 d 7 0) → ∀ (H : Heap) (locs : List Loc) (ls : Array Slot), Wd G s A s.heap H locs Cj M → lv_has ls 3 [(0, .ref (zad G 3 d)), (1, .ref (zad G 9 t)), (2, .int (nI (dist (cN C 9 t 0) d)))] → W p l e { frames := 2, cells := 0, slots := 0, locals := 41 } s m args below meth c H locs 0 0 Q (F0 m 21 ls []) := by
    intro k
    induction k with
    | zero =>
      intro Cj hk hD H locs ls hW hl
      have hdl := dist_le (hI.2.2 t) hd
      refine lv_aload_n hx hb dX1_carry_21 rfl (lv_at hl 0 rfl) ?_
      refine g3 (k := 7) (v := .int (nI (cN Cj 3 d 7))) hC hW hd (by decide) mF_X1_48 rfl dX1_carry_22 ?_
      refine lv_iload_n hx hb dX1_carry_25 rfl (lv_at hl 2 rfl) ?_
      refine zc_ge (i := cN Cj 3 d 7) (j := dist (cN C 9 t 0) d) (tgt := 55) hx hb rfl rfl (by omega) (by omega) dX1_carry_26 (by decide) (fun h26 => ?_) (fun h26 => ?_)
      · refine lv_aload_n hx hb dX1_carry_55 rfl (lv_at hl 0 rfl) ?_
        refine lv_dup hx hb dX1_carry_56 rfl ?_
        refine g3 (k := 2) (v := .int (cF Cj 3 d 2)) hC hW hd (by decide) mF_X1_57 rfl dX1_carry_57 ?_
        refine lv_iconst (v := 1) hx hb dX1_carry_60 (by decide) ?_
        refine lv_iadd hx hb dX1_carry_61 ?_
        refine p3F (k := 2) (v := (cF Cj 3 d 2) + 1) hC hW hd (by decide) mF_X1_57 dX1_carry_62 (fun _ eS H locs hW => ?_)
        subst eS
        refine lv_aload_n hx hb dX1_carry_65 rfl (lv_at hl 1 rfl) ?_
        refine lv_dup hx hb dX1_carry_66 rfl ?_
        refine g9 (k := 4) (v := .int (cF Cj 9 t 4)) hC hW ht (by decide) mF_X1_60 rfl dX1_carry_67 ?_
        refine lv_iconst (v := 1) hx hb dX1_carry_70 (by decide) ?_
        refine lv_iadd hx hb dX1_carry_71 ?_
        refine p9 (k := 4) (v := (cF Cj 9 t 4) + 1) hC hW ht (by decide) mF_X1_60 dX1_carry_72 (fun _ eS H locs hW => ?_)
        subst eS
        refine lv_iconst (v := 0) hx hb dX1_carry_75 (by decide) ?_
        have hD2 : carC C d t = (0, sF (sF Cj 3 d 2 ((cF Cj 3 d 2) + 1)) 9 t 4 ((cF Cj 9 t 4) + 1)) := by unfold carC; rw [← hD]; rfl
        rw [hD2] at hE
        exact hE hW rfl dX1_carry_76
      · exact absurd h26 (by omega)
    | succ k ih =>
      intro Cj hk hD H locs ls hW hl
      have hdl := dist_le (hI.2.2 t) hd
      refine lv_aload_n hx hb dX1_carry_21 rfl (lv_at hl 0 rfl) ?_
      refine g3 (k := 7) (v := .int (nI (cN Cj 3 d 7))) hC hW hd (by decide) mF_X1_48 rfl dX1_carry_22 ?_
      refine lv_iload_n hx hb dX1_carry_25 rfl (lv_at hl 2 rfl) ?_
      refine zc_ge (i := cN Cj 3 d 7) (j := dist (cN C 9 t 0) d) (tgt := 55) hx hb rfl rfl (by omega) (by omega) dX1_carry_26 (by decide) (fun h26 => ?_) (fun h26 => ?_)
      · exact absurd h26 (by omega)
      · refine lv_aload_n hx hb dX1_carry_29 rfl (lv_at hl 0 rfl) ?_
        refine g3 (k := 1) (v := .ref (zad G 1 0)) hC hW hd (by decide) mF_X1_18 rfl dX1_carry_30 ?_
        refine z_callV (As := []) (rest := []) (st1 := [.int (bI (cF Cj 1 0 2 ≠ 0))]) hC hW LL_1 rfl rfl rfl (c_X2_work l G Cj M) mw_X2_work mv_X2_work mM_X1_51 ⟨Nat.le_of_ble_eq_true rfl, Nat.le_of_ble_eq_true rfl⟩ rfl rfl hl.1 (lv_room (Nat.le_of_ble_eq_true rfl)) dX1_carry_33 rfl (fun H locs hW => ?_) ⟨Nat.zero_le _, Nat.zero_le _⟩
        obtain ⟨C1, eC1⟩ : ∃ z, z = wkC Cj := ⟨_, rfl⟩
        rw [← eC1] at hW
        refine zb_ne (tgt := 42) hx hb (cF Cj 1 0 2 ≠ 0) rfl dX1_carry_36 (by decide) (fun h36 => ?_) (fun h36 => ?_)
        · refine lv_aload_n hx hb dX1_carry_42 rfl (lv_at hl 0 rfl) ?_
          refine lv_dup hx hb dX1_carry_43 rfl ?_
          refine g3 (k := 7) (v := .int (nI (cN C1 3 d 7))) hC hW hd (by decide) mF_X1_48 rfl dX1_carry_44 ?_
          refine lv_iconst (v := 1) hx hb dX1_carry_47 (by decide) ?_
          refine zi_add (i := cN C1 3 d 7) (j := 1) hx hb rfl rfl dX1_carry_48 ?_
          refine p3N (k := 7) (v := cN C1 3 d 7 + 1) hC hW hd (by decide) rfl mF_X1_48 dX1_carry_49 (fun _ eS H locs hW => ?_)
          subst eS
          refine lv_goto (tgt := 21) hx hb dX1_carry_52 (by decide) ?_
          exact ih (sN C1 3 d 7 (cN C1 3 d 7 + 1)) (by rw [cN_sN, if_pos ⟨rfl, rfl, rfl⟩, eC1, wkC_N]; omega) (by rw [← hD, carL, if_pos h36, eC1]) _ _ _ hW (lv_sub hl [0, 1, 2] rfl)
        · refine lv_bipush (v := (-4)) hx hb dX1_carry_39 (by decide) ?_
          have hD2 : carC C d t = (-4, C1) := by unfold carC; rw [← hD, carL, if_neg h36, eC1]; rfl
          rw [hD2] at hE
          exact hE hW rfl dX1_carry_41
  exact lp (dist (cN C 9 t 0) d) (sN (sN (sM C d (some t)) 3 d 8 0) 3 d 7 0) (by simp [cN_sN]) rfl _ _ _ hW (lv_sub hl [1, 2, 0] rfl)

set_option maxHeartbeats 4000000 in
set_option maxRecDepth 100000 in
theorem c_X1_windTo (l : Launch) (G : GG) (C : CS) (M : MS) {d : Nat} (hd : d < 3) {q : Nat} (hq : cN C 3 d 8 ≤ q) (hq2 : q < 2 ^ 31) : Ct l G yX1_windTo cX1_windTo 2 (some .int) 1 20 [.ref (zad G 3 d), .int (nI q)] C M (some (.int ((windC C d q).1))) ((windC C d q).2) M := by
  refine Ct_i (by decide) (Nat.le_of_ble_eq_true rfl) (fun {p e s m args below meth c A Q ls} hC hW hl hE => ?_)
  have hx := hC.1
  have hb := hC.2.1
  have hl : lv_has ls 2 [(0, .ref (zad G 3 d)), (1, .int (nI q))] := hl
  have lp : ∀ (k : Nat) (Cj : CS), cN Cj 3 d 8 + k = q → windL d k Cj = windC C d q → ∀ (H : Heap) (locs : List Loc) (ls : Array Slot), Wd G s A s.heap H locs Cj M → lv_has ls 2 [(0, .ref (zad G 3 d)), (1, .int (nI q))] → W p l e { frames := 1, cells := 0, slots := 0, locals := 20 } s m args below meth c H locs 0 0 Q (F0 m 0 ls []) := by
    intro k
    induction k with
    | zero =>
      intro Cj hk hD H locs ls hW hl
      refine lv_aload_n hx hb dX1_windTo_0 rfl (lv_at hl 0 rfl) ?_
      refine g3 (k := 8) (v := .int (nI (cN Cj 3 d 8))) hC hW hd (by decide) mF_X1_41 rfl dX1_windTo_1 ?_
      refine lv_iload_n hx hb dX1_windTo_4 rfl (lv_at hl 1 rfl) ?_
      refine zc_ge (i := cN Cj 3 d 8) (j := q) (tgt := 34) hx hb rfl rfl (by omega) (by omega) dX1_windTo_5 (by decide) (fun h5 => ?_) (fun h5 => ?_)
      · refine lv_iconst (v := 0) hx hb dX1_windTo_34 (by decide) ?_
        have hD2 : windC C d q = (0, Cj) := hD.symm
        rw [hD2] at hE
        exact hE hW rfl dX1_windTo_35
      · exact absurd h5 (by omega)
    | succ k ih =>
      intro Cj hk hD H locs ls hW hl
      refine lv_aload_n hx hb dX1_windTo_0 rfl (lv_at hl 0 rfl) ?_
      refine g3 (k := 8) (v := .int (nI (cN Cj 3 d 8))) hC hW hd (by decide) mF_X1_41 rfl dX1_windTo_1 ?_
      refine lv_iload_n hx hb dX1_windTo_4 rfl (lv_at hl 1 rfl) ?_
      refine zc_ge (i := cN Cj 3 d 8) (j := q) (tgt := 34) hx hb rfl rfl (by omega) (by omega) dX1_windTo_5 (by decide) (fun h5 => ?_) (fun h5 => ?_)
      · exact absurd h5 (by omega)
      · refine lv_aload_n hx hb dX1_windTo_8 rfl (lv_at hl 0 rfl) ?_
        refine g3 (k := 1) (v := .ref (zad G 1 0)) hC hW hd (by decide) mF_X1_18 rfl dX1_windTo_9 ?_
        refine z_callV (As := []) (rest := []) (st1 := [.int (bI (cF Cj 1 0 2 ≠ 0))]) hC hW LL_1 rfl rfl rfl (c_X2_work l G Cj M) mw_X2_work mv_X2_work mM_X1_51 ⟨Nat.le_of_ble_eq_true rfl, Nat.le_of_ble_eq_true rfl⟩ rfl rfl hl.1 (lv_room (Nat.le_of_ble_eq_true rfl)) dX1_windTo_12 rfl (fun H locs hW => ?_) ⟨Nat.zero_le _, Nat.zero_le _⟩
        obtain ⟨C1, eC1⟩ : ∃ z, z = wkC Cj := ⟨_, rfl⟩
        rw [← eC1] at hW
        refine zb_ne (tgt := 21) hx hb (cF Cj 1 0 2 ≠ 0) rfl dX1_windTo_15 (by decide) (fun h15 => ?_) (fun h15 => ?_)
        · refine lv_aload_n hx hb dX1_windTo_21 rfl (lv_at hl 0 rfl) ?_
          refine lv_dup hx hb dX1_windTo_22 rfl ?_
          refine g3 (k := 8) (v := .int (nI (cN C1 3 d 8))) hC hW hd (by decide) mF_X1_41 rfl dX1_windTo_23 ?_
          refine lv_iconst (v := 1) hx hb dX1_windTo_26 (by decide) ?_
          refine zi_add (i := cN C1 3 d 8) (j := 1) hx hb rfl rfl dX1_windTo_27 ?_
          refine p3N (k := 8) (v := cN C1 3 d 8 + 1) hC hW hd (by decide) rfl mF_X1_41 dX1_windTo_28 (fun _ eS H locs hW => ?_)
          subst eS
          refine lv_goto (tgt := 0) hx hb dX1_windTo_31 (by decide) ?_
          exact ih (sN C1 3 d 8 (cN C1 3 d 8 + 1)) (by rw [cN_sN, if_pos ⟨rfl, rfl, rfl⟩, eC1, wkC_N]; omega) (by rw [← hD, windL, if_pos h15, eC1]) _ _ _ hW (lv_sub hl [0, 1] rfl)
        · refine lv_bipush (v := (-4)) hx hb dX1_windTo_18 (by decide) ?_
          have hD2 : windC C d q = (-4, C1) := by rw [← hD, windL, if_neg h15, eC1]
          rw [hD2] at hE
          exact hE hW rfl dX1_windTo_20
  exact lp (q - cN C 3 d 8) C (by omega) rfl _ _ _ hW (lv_sub hl [0, 1] rfl)

set_option maxHeartbeats 4000000 in
set_option maxRecDepth 100000 in
theorem c_X1_passBlock (l : Launch) (G : GG) (C : CS) (M : MS) {d : Nat} (hd : d < 3) : Ct l G yX1_passBlock cX1_passBlock 1 (some .int) 1 20 [.ref (zad G 3 d)] C M (some (.int ((pasC C d).1))) ((pasC C d).2) M := by
  refine Ct_i (by decide) (Nat.le_of_ble_eq_true rfl) (fun {p e s m args below meth c A Q ls} hC hW hl hE => ?_)
  have hx := hC.1
  have hb := hC.2.1
  have hl : lv_has ls 1 [(0, .ref (zad G 3 d))] := hl
  refine lv_aload_n hx hb dX1_passBlock_0 rfl (lv_at hl 0 rfl) ?_
  refine g3 (k := 5) (v := .int (cF C 3 d 5)) hC hW hd (by decide) mF_X1_9 rfl dX1_passBlock_1 ?_
  refine lv_if_ne (tgt := 15) hx hb dX1_passBlock_4 (by decide) (fun h4 => ?_) (fun h4 => ?_)
  · refine lv_aload_n hx hb dX1_passBlock_15 rfl (lv_at hl 0 rfl) ?_
    refine g3 (k := 1) (v := .ref (zad G 1 0)) hC hW hd (by decide) mF_X1_18 rfl dX1_passBlock_16 ?_
    refine z_callV (As := []) (rest := []) (st1 := [.int (bI (cF C 1 0 2 ≠ 0))]) hC hW LL_1 rfl rfl rfl (c_X2_work l G C M) mw_X2_work mv_X2_work mM_X1_51 ⟨Nat.le_of_ble_eq_true rfl, Nat.le_of_ble_eq_true rfl⟩ rfl rfl hl.1 (lv_room (Nat.le_of_ble_eq_true rfl)) dX1_passBlock_19 rfl (fun H locs hW => ?_) ⟨Nat.zero_le _, Nat.zero_le _⟩
    obtain ⟨C1, eC1⟩ : ∃ z, z = wkC C := ⟨_, rfl⟩
    rw [← eC1] at hW
    refine zb_ne (tgt := 28) hx hb (cF C 1 0 2 ≠ 0) rfl dX1_passBlock_22 (by decide) (fun h22 => ?_) (fun h22 => ?_)
    · refine lv_aload_n hx hb dX1_passBlock_28 rfl (lv_at hl 0 rfl) ?_
      refine g3 (k := 5) (v := .int (cF C1 3 d 5)) hC hW hd (by decide) mF_X1_9 rfl dX1_passBlock_29 ?_
      refine lv_if_le (tgt := 45) hx hb dX1_passBlock_32 (by decide) (fun h32 => ?_) (fun h32 => ?_)
      · refine lv_aload_n hx hb dX1_passBlock_45 rfl (lv_at hl 0 rfl) ?_
        refine lv_dup hx hb dX1_passBlock_46 rfl ?_
        refine g3 (k := 3) (v := .int (cF C1 3 d 3)) hC hW hd (by decide) mF_X1_63 rfl dX1_passBlock_47 ?_
        refine lv_iconst (v := 1) hx hb dX1_passBlock_50 (by decide) ?_
        refine lv_iadd hx hb dX1_passBlock_51 ?_
        refine p3F (k := 3) (v := (cF C1 3 d 3) + 1) hC hW hd (by decide) mF_X1_63 dX1_passBlock_52 (fun _ eS H locs hW => ?_)
        subst eS
        refine lv_aload_n hx hb dX1_passBlock_55 rfl (lv_at hl 0 rfl) ?_
        refine lv_dup hx hb dX1_passBlock_56 rfl ?_
        refine g3 (k := 8) (v := .int (nI (cN C1 3 d 8))) hC hW hd (by decide) mF_X1_41 rfl dX1_passBlock_57 ?_
        refine lv_iconst (v := 1) hx hb dX1_passBlock_60 (by decide) ?_
        refine zi_add (i := cN C1 3 d 8) (j := 1) hx hb rfl rfl dX1_passBlock_61 ?_
        refine p3N (k := 8) (v := cN C1 3 d 8 + 1) hC hW hd (by decide) rfl mF_X1_41 dX1_passBlock_62 (fun _ eS H locs hW => ?_)
        subst eS
        refine lv_iconst (v := 0) hx hb dX1_passBlock_65 (by decide) ?_
        have hD2 : pasC C d = (0, sN (sF C1 3 d 3 ((cF C1 3 d 3) + 1)) 3 d 8 (cN C1 3 d 8 + 1)) := by unfold pasC pas2; rw [if_pos h4, if_pos h22, ← eC1]; unfold pas1; rw [if_pos h32]
        rw [hD2] at hE
        exact hE hW rfl dX1_passBlock_66
      · refine lv_aload_n hx hb dX1_passBlock_35 rfl (lv_at hl 0 rfl) ?_
        refine lv_dup hx hb dX1_passBlock_36 rfl ?_
        refine g3 (k := 5) (v := .int (cF C1 3 d 5)) hC hW hd (by decide) mF_X1_9 rfl dX1_passBlock_37 ?_
        refine lv_iconst (v := 1) hx hb dX1_passBlock_40 (by decide) ?_
        refine lv_isub hx hb dX1_passBlock_41 ?_
        refine p3F (k := 5) (v := (cF C1 3 d 5) - 1) hC hW hd (by decide) mF_X1_9 dX1_passBlock_42 (fun _ eS H locs hW => ?_)
        subst eS
        refine lv_aload_n hx hb dX1_passBlock_45 rfl (lv_at hl 0 rfl) ?_
        refine lv_dup hx hb dX1_passBlock_46 rfl ?_
        refine g3 (k := 3) (v := .int (cF C1 3 d 3)) hC hW hd (by decide) mF_X1_63 rfl dX1_passBlock_47 ?_
        refine lv_iconst (v := 1) hx hb dX1_passBlock_50 (by decide) ?_
        refine lv_iadd hx hb dX1_passBlock_51 ?_
        refine p3F (k := 3) (v := (cF C1 3 d 3) + 1) hC hW hd (by decide) mF_X1_63 dX1_passBlock_52 (fun _ eS H locs hW => ?_)
        subst eS
        refine lv_aload_n hx hb dX1_passBlock_55 rfl (lv_at hl 0 rfl) ?_
        refine lv_dup hx hb dX1_passBlock_56 rfl ?_
        refine g3 (k := 8) (v := .int (nI (cN C1 3 d 8))) hC hW hd (by decide) mF_X1_41 rfl dX1_passBlock_57 ?_
        refine lv_iconst (v := 1) hx hb dX1_passBlock_60 (by decide) ?_
        refine zi_add (i := cN C1 3 d 8) (j := 1) hx hb rfl rfl dX1_passBlock_61 ?_
        refine p3N (k := 8) (v := cN C1 3 d 8 + 1) hC hW hd (by decide) rfl mF_X1_41 dX1_passBlock_62 (fun _ eS H locs hW => ?_)
        subst eS
        refine lv_iconst (v := 0) hx hb dX1_passBlock_65 (by decide) ?_
        have hD2 : pasC C d = (0, sN (sF (sF C1 3 d 5 ((cF C1 3 d 5) - 1)) 3 d 3 ((cF C1 3 d 3) + 1)) 3 d 8 (cN C1 3 d 8 + 1)) := by unfold pasC pas2; rw [if_pos h4, if_pos h22, ← eC1]; unfold pas1; rw [if_neg h32]; rfl
        rw [hD2] at hE
        exact hE hW rfl dX1_passBlock_66
    · refine lv_bipush (v := (-4)) hx hb dX1_passBlock_25 (by decide) ?_
      have hD2 : pasC C d = (-4, C1) := by unfold pasC; rw [if_pos h4, if_neg h22, eC1]
      rw [hD2] at hE
      exact hE hW rfl dX1_passBlock_27
  · refine lv_aload_n hx hb dX1_passBlock_7 rfl (lv_at hl 0 rfl) ?_
    refine lv_iconst (v := 1) hx hb dX1_passBlock_8 (by decide) ?_
    refine p3J (v := 1) hC hW hd (by decide) mF_X1_22 dX1_passBlock_9 (fun _ eS H locs hW => ?_)
    subst eS
    refine lv_bipush (v := (-5)) hx hb dX1_passBlock_12 (by decide) ?_
    have hD2 : pasC C d = (-5, sF C 3 d 4 1) := by unfold pasC; rw [if_neg (fun q => q h4)]
    rw [hD2] at hE
    exact hE hW rfl dX1_passBlock_14

set_option maxHeartbeats 4000000 in
set_option maxRecDepth 100000 in
theorem c_X1_readBlock (l : Launch) (G : GG) (C : CS) (M : MS) {d : Nat} (hd : d < 3) {t : Nat} (ht : t < zn G) (hM : cM C d = some t) (hp : cN C 3 d 8 < 2 ^ 31) : Ct l G yX1_readBlock cX1_readBlock 3 (some .int) 2 40 [.ref (zad G 3 d)] C M (some (.int ((reaC C d t).1))) ((reaC C d t).2) M := by
  refine Ct_i (by decide) (Nat.le_of_ble_eq_true rfl) (fun {p e s m args below meth c A Q ls} hC hW hl hE => ?_)
  have hx := hC.1
  have hb := hC.2.1
  have hl : lv_has ls 3 [(0, .ref (zad G 3 d))] := hl
  refine lv_aload_n hx hb dX1_readBlock_0 rfl (lv_at hl 0 rfl) ?_
  refine g3 (k := 8) (v := .int (nI (cN C 3 d 8))) hC hW hd (by decide) mF_X1_41 rfl dX1_readBlock_1 ?_
  refine lv_istore_n (lv' := [(1, .int (nI (cN C 3 d 8))), (0, .ref (zad G 3 d))]) hx hb dX1_readBlock_4 rfl hl (by decide) rfl (fun ls hl => ?_)
  refine lv_aload_n hx hb dX1_readBlock_5 rfl (lv_at hl 1 rfl) ?_
  refine z_callV (As := []) (rest := []) (st1 := [.int ((pasC C d).1)]) hC hW (LL_3 hd) rfl rfl rfl (c_X1_passBlock l G C M hd) mw_X1_passBlock mv_X1_passBlock mM_X1_66 ⟨Nat.le_of_ble_eq_true rfl, Nat.le_of_ble_eq_true rfl⟩ rfl rfl hl.1 (lv_room (Nat.le_of_ble_eq_true rfl)) dX1_readBlock_6 rfl (fun H locs hW => ?_) ⟨Nat.zero_le _, Nat.zero_le _⟩
  obtain ⟨C1, eC1⟩ : ∃ z, z = (pasC C d).2 := ⟨_, rfl⟩
  rw [← eC1] at hW
  have hM1 : cM C1 d = some t := by rw [eC1, pasC_M]; exact hM
  refine lv_istore_n (lv' := [(2, .int ((pasC C d).1)), (1, .int (nI (cN C 3 d 8))), (0, .ref (zad G 3 d))]) hx hb dX1_readBlock_9 rfl hl (by decide) rfl (fun ls hl => ?_)
  refine lv_iload_n hx hb dX1_readBlock_10 rfl (lv_at hl 0 rfl) ?_
  refine lv_if_ne (tgt := 35) hx hb dX1_readBlock_11 (by decide) (fun h11 => ?_) (fun h11 => ?_)
  · refine lv_iload_n hx hb dX1_readBlock_35 rfl (lv_at hl 0 rfl) ?_
    have hD2 : reaC C d t = ((pasC C d).1, C1) := by unfold reaC; rw [if_pos h11, eC1]
    rw [hD2] at hE
    exact hE hW rfl dX1_readBlock_36
  · refine lv_aload_n hx hb dX1_readBlock_14 rfl (lv_at hl 2 rfl) ?_
    refine g3 (k := 6) (v := .ref (zad G 9 t)) hC hW hd (by decide) mF_X1_26 (by simp [fsD, va_rf, hM1, cF_sF, cN_sN, cB_sB, cM_sM, cN_sF, cB_sF, cM_sF, cF_sN, cB_sN, cM_sN, cF_sB, cN_sB, cM_sB, cF_sM, cN_sM, cB_sM, mF_smF, mA_smF, mF_smA, mA_smA]) dX1_readBlock_15 ?_
    refine lv_ifnull hx hb dX1_readBlock_18 ?_
    refine lv_aload_n hx hb dX1_readBlock_21 rfl (lv_at hl 2 rfl) ?_
    refine g3 (k := 6) (v := .ref (zad G 9 t)) hC hW hd (by decide) mF_X1_26 (by simp [fsD, va_rf, hM1, cF_sF, cN_sN, cB_sB, cM_sM, cN_sF, cB_sF, cM_sF, cF_sN, cB_sN, cM_sN, cF_sB, cN_sB, cM_sB, cF_sM, cN_sM, cB_sM, mF_smF, mA_smF, mF_smA, mA_smA]) dX1_readBlock_22 ?_
    refine lv_iload_n hx hb dX1_readBlock_25 rfl (lv_at hl 1 rfl) ?_
    refine z_callV (As := [.int (nI (cN C 3 d 8))]) (rest := []) (st1 := [.int (bI (dmgP C1 t (cN C 3 d 8)))]) hC hW (LL_9 ht) rfl rfl rfl (c_X3_isDamaged l G C1 M ht (a := cN C 3 d 8) (by omega)) mw_X3_isDamaged mv_X3_isDamaged mM_X1_70 ⟨Nat.le_of_ble_eq_true rfl, Nat.le_of_ble_eq_true rfl⟩ rfl rfl hl.1 (lv_room (Nat.le_of_ble_eq_true rfl)) dX1_readBlock_26 rfl (fun H locs hW => ?_) ⟨Nat.zero_le _, Nat.zero_le _⟩
    refine zb_eq (tgt := 35) hx hb (dmgP C1 t (cN C 3 d 8)) rfl dX1_readBlock_29 (by decide) (fun h29 => ?_) (fun h29 => ?_)
    · refine lv_iload_n hx hb dX1_readBlock_35 rfl (lv_at hl 0 rfl) ?_
      have hD2 : reaC C d t = ((pasC C d).1, C1) := by unfold reaC; rw [if_neg (fun q => q h11), ← eC1, if_neg h29]
      rw [hD2] at hE
      exact hE hW rfl dX1_readBlock_36
    · refine lv_bipush (v := (-7)) hx hb dX1_readBlock_32 (by decide) ?_
      have hD2 : reaC C d t = (-7, C1) := by unfold reaC; rw [if_neg (fun q => q h11), ← eC1, if_pos h29]
      rw [hD2] at hE
      exact hE hW rfl dX1_readBlock_34

set_option maxHeartbeats 4000000 in
set_option maxRecDepth 100000 in
theorem c_X1_writeBlock (l : Launch) (G : GG) (C : CS) (M : MS) {d : Nat} (hd : d < 3) {t : Nat} (ht : t < zn G) (hM : cM C d = some t) (hI : Iv C) {b : Nat} (hb0 : isB (zn G) b) {a : Nat} (ha : a < 2 ^ 31) : Ct l G yX1_writeBlock cX1_writeBlock 4 (some .int) 2 43 [.ref (zad G 3 d), .ref (zad G 5 b), .int (nI a)] C M (some (.int ((wriC C d t b a).1))) ((wriC C d t b a).2) M := by
  refine Ct_i (by decide) (Nat.le_of_ble_eq_true rfl) (fun {p e s m args below meth c A Q ls} hC hW hl hE => ?_)
  have hx := hC.1
  have hb := hC.2.1
  have hl : lv_has ls 4 [(0, .ref (zad G 3 d)), (1, .ref (zad G 5 b)), (2, .int (nI a))] := hl
  refine lv_aload_n hx hb dX1_writeBlock_0 rfl (lv_at hl 0 rfl) ?_
  refine g3 (k := 6) (v := .ref (zad G 9 t)) hC hW hd (by decide) mF_X1_26 (by simp [fsD, va_rf, hM, cF_sF, cN_sN, cB_sB, cM_sM, cN_sF, cB_sF, cM_sF, cF_sN, cB_sN, cM_sN, cF_sB, cN_sB, cM_sB, cF_sM, cN_sM, cB_sM, mF_smF, mA_smF, mF_smA, mA_smA]) dX1_writeBlock_1 ?_
  refine lv_ifnull hx hb dX1_writeBlock_4 ?_
  refine lv_aload_n hx hb dX1_writeBlock_7 rfl (lv_at hl 0 rfl) ?_
  refine g3 (k := 6) (v := .ref (zad G 9 t)) hC hW hd (by decide) mF_X1_26 (by simp [fsD, va_rf, hM, cF_sF, cN_sN, cB_sB, cM_sM, cN_sF, cB_sF, cM_sF, cF_sN, cB_sN, cM_sN, cF_sB, cN_sB, cM_sB, cF_sM, cN_sM, cB_sM, mF_smF, mA_smF, mF_smA, mA_smA]) dX1_writeBlock_8 ?_
  refine g9 (k := 1) (v := .ref (zad G 5 t)) hC hW ht (by decide) mF_X1_74 rfl dX1_writeBlock_11 ?_
  refine z_callV (As := []) (rest := []) (st1 := [.int (bI (cap t ≤ cN C 5 t 3))]) hC hW (LL_5 (Or.inl ht)) rfl rfl rfl (c_X0_isFull l G C M (Or.inl ht) (hI.1 t)) mw_X0_isFull mv_X0_isFull mM_X1_78 ⟨Nat.le_of_ble_eq_true rfl, Nat.le_of_ble_eq_true rfl⟩ rfl rfl hl.1 (lv_room (Nat.le_of_ble_eq_true rfl)) dX1_writeBlock_14 rfl (fun H locs hW => ?_) ⟨Nat.zero_le _, Nat.zero_le _⟩
  refine zb_eq (tgt := 23) hx hb (cap t ≤ cN C 5 t 3) rfl dX1_writeBlock_17 (by decide) (fun h17 => ?_) (fun h17 => ?_)
  · refine lv_aload_n hx hb dX1_writeBlock_23 rfl (lv_at hl 0 rfl) ?_
    refine z_callV (As := []) (rest := []) (st1 := [.int ((pasC C d).1)]) hC hW (LL_3 hd) rfl rfl rfl (c_X1_passBlock l G C M hd) mw_X1_passBlock mv_X1_passBlock mM_X1_66 ⟨Nat.le_of_ble_eq_true rfl, Nat.le_of_ble_eq_true rfl⟩ rfl rfl hl.1 (lv_room (Nat.le_of_ble_eq_true rfl)) dX1_writeBlock_24 rfl (fun H locs hW => ?_) ⟨Nat.zero_le _, Nat.zero_le _⟩
    obtain ⟨C1, eC1⟩ : ∃ z, z = (pasC C d).2 := ⟨_, rfl⟩
    rw [← eC1] at hW
    have hM1 : cM C1 d = some t := by rw [eC1, pasC_M]; exact hM
    have hI1 : Iv C1 := by rw [eC1]; exact Iv_pas hI
    refine lv_istore_n (lv' := [(3, .int ((pasC C d).1)), (0, .ref (zad G 3 d)), (1, .ref (zad G 5 b)), (2, .int (nI a))]) hx hb dX1_writeBlock_27 rfl hl (by decide) rfl (fun ls hl => ?_)
    refine lv_iload_n hx hb dX1_writeBlock_28 rfl (lv_at hl 0 rfl) ?_
    refine lv_if_ne (tgt := 57) hx hb dX1_writeBlock_29 (by decide) (fun h29 => ?_) (fun h29 => ?_)
    · refine lv_iload_n hx hb dX1_writeBlock_57 rfl (lv_at hl 0 rfl) ?_
      have hD2 : wriC C d t b a = ((pasC C d).1, C1) := by unfold wriC; rw [if_neg h17, if_pos h29, eC1]
      rw [hD2] at hE
      exact hE hW rfl dX1_writeBlock_58
    · refine lv_aload_n hx hb dX1_writeBlock_32 rfl (lv_at hl 1 rfl) ?_
      refine g3 (k := 6) (v := .ref (zad G 9 t)) hC hW hd (by decide) mF_X1_26 (by simp [fsD, va_rf, hM1, cF_sF, cN_sN, cB_sB, cM_sM, cN_sF, cB_sF, cM_sF, cF_sN, cB_sN, cM_sN, cF_sB, cN_sB, cM_sB, cF_sM, cN_sM, cB_sM, mF_smF, mA_smF, mF_smA, mA_smA]) dX1_writeBlock_33 ?_
      refine g9 (k := 1) (v := .ref (zad G 5 t)) hC hW ht (by decide) mF_X1_74 rfl dX1_writeBlock_36 ?_
      refine lv_aload_n hx hb dX1_writeBlock_39 rfl (lv_at hl 2 rfl) ?_
      refine lv_iload_n hx hb dX1_writeBlock_40 rfl (lv_at hl 3 rfl) ?_
      refine z_callV (As := [.int (nI a)]) (rest := [.ref (zad G 5 t)]) (st1 := [.int (kAt C1 6 b a), .ref (zad G 5 t)]) hC hW (LL_5 hb0) rfl rfl rfl (c_X0_kindAt l G C1 M hb0 (hI1.1 b) ha) mw_X0_kindAt mv_X0_kindAt mM_X1_83 ⟨Nat.le_of_ble_eq_true rfl, Nat.le_of_ble_eq_true rfl⟩ rfl rfl hl.1 (lv_room (Nat.le_of_ble_eq_true rfl)) dX1_writeBlock_41 rfl (fun H locs hW => ?_) ⟨Nat.zero_le _, Nat.zero_le _⟩
      refine lv_aload_n hx hb dX1_writeBlock_44 rfl (lv_at hl 2 rfl) ?_
      refine lv_iload_n hx hb dX1_writeBlock_45 rfl (lv_at hl 3 rfl) ?_
      refine z_callV (As := [.int (nI a)]) (rest := [.int (kAt C1 6 b a), .ref (zad G 5 t)]) (st1 := [.int (kAt C1 7 b a), .int (kAt C1 6 b a), .ref (zad G 5 t)]) hC hW (LL_5 hb0) rfl rfl rfl (c_X0_valueAt l G C1 M hb0 (hI1.1 b) ha) mw_X0_valueAt mv_X0_valueAt mM_X1_86 ⟨Nat.le_of_ble_eq_true rfl, Nat.le_of_ble_eq_true rfl⟩ rfl rfl hl.1 (lv_room (Nat.le_of_ble_eq_true rfl)) dX1_writeBlock_46 rfl (fun H locs hW => ?_) ⟨Nat.zero_le _, Nat.zero_le _⟩
      refine lv_aload_n hx hb dX1_writeBlock_49 rfl (lv_at hl 2 rfl) ?_
      refine lv_iload_n hx hb dX1_writeBlock_50 rfl (lv_at hl 3 rfl) ?_
      refine z_callV (As := [.int (nI a)]) (rest := [.int (kAt C1 7 b a), .int (kAt C1 6 b a), .ref (zad G 5 t)]) (st1 := [.int (kAt C1 8 b a), .int (kAt C1 7 b a), .int (kAt C1 6 b a), .ref (zad G 5 t)]) hC hW (LL_5 hb0) rfl rfl rfl (c_X0_sizeAt l G C1 M hb0 (hI1.1 b) ha) mw_X0_sizeAt mv_X0_sizeAt mM_X1_89 ⟨Nat.le_of_ble_eq_true rfl, Nat.le_of_ble_eq_true rfl⟩ rfl rfl hl.1 (lv_room (Nat.le_of_ble_eq_true rfl)) dX1_writeBlock_51 rfl (fun H locs hW => ?_) ⟨Nat.zero_le _, Nat.zero_le _⟩
      refine z_callV (As := [.int (kAt C1 6 b a), .int (kAt C1 7 b a), .int (kAt C1 8 b a)]) (rest := []) (st1 := []) hC hW (LL_5 (Or.inl ht)) rfl rfl rfl (c_X0_add l G C1 M (Or.inl ht) (hI1.1 t) (kAt C1 6 b a) (kAt C1 7 b a) (kAt C1 8 b a)) mw_X0_add mv_X0_add mM_X1_92 ⟨Nat.le_of_ble_eq_true rfl, Nat.le_of_ble_eq_true rfl⟩ rfl rfl hl.1 (lv_room (Nat.le_of_ble_eq_true rfl)) dX1_writeBlock_54 rfl (fun H locs hW => ?_) ⟨Nat.zero_le _, Nat.zero_le _⟩
      obtain ⟨C2, eC2⟩ : ∃ z, z = addC C1 t (kAt C1 6 b a) (kAt C1 7 b a) (kAt C1 8 b a) := ⟨_, rfl⟩
      rw [← eC2] at hW
      refine lv_iload_n hx hb dX1_writeBlock_57 rfl (lv_at hl 0 rfl) ?_
      have hD2 : wriC C d t b a = ((pasC C d).1, C2) := by unfold wriC; rw [if_neg h17, if_neg (fun q => q h29), ← eC1, ← eC2]
      rw [hD2] at hE
      exact hE hW rfl dX1_writeBlock_58
  · refine lv_bipush (v := (-6)) hx hb dX1_writeBlock_20 (by decide) ?_
    have hD2 : wriC C d t b a = (-6, C) := by unfold wriC; rw [if_pos h17]
    rw [hD2] at hE
    exact hE hW rfl dX1_writeBlock_22

set_option maxHeartbeats 4000000 in
set_option maxRecDepth 100000 in
theorem c_X1_closeWithVoid (l : Launch) (G : GG) (C : CS) (M : MS) {d : Nat} (hd : d < 3) (hI : Iv C) {b : Nat} (hb0 : isB (zn G) b) : Ct l G yX1_closeWithVoid cX1_closeWithVoid 2 none 2 43 [.ref (zad G 3 d), .ref (zad G 5 b)] C M none (cloC C d b) M := by
  refine Ct_v (by decide) (Nat.le_of_ble_eq_true rfl) (fun {p e s m args below meth c A Q ls} hC hW hl hE => ?_)
  have hx := hC.1
  have hb := hC.2.1
  have hl : lv_has ls 2 [(0, .ref (zad G 3 d)), (1, .ref (zad G 5 b))] := hl
  refine lv_aload_n hx hb dX1_closeWithVoid_0 rfl (lv_at hl 0 rfl) ?_
  refine g3 (k := 4) (v := .int (cF C 3 d 4)) hC hW hd (by decide) mF_X1_22 rfl dX1_closeWithVoid_1 ?_
  refine lv_if_ne (tgt := 14) hx hb dX1_closeWithVoid_4 (by decide) (fun h4 => ?_) (fun h4 => ?_)
  · have hD2 : cloC C d b = C := by unfold cloC; rw [if_pos h4]
    rw [hD2] at hE
    exact hE hW dX1_closeWithVoid_14
  · refine lv_aload_n hx hb dX1_closeWithVoid_7 rfl (lv_at hl 1 rfl) ?_
    refine z_callV (As := []) (rest := []) (st1 := [.int (bI (cap b ≤ cN C 5 b 3))]) hC hW (LL_5 hb0) rfl rfl rfl (c_X0_isFull l G C M hb0 (hI.1 b)) mw_X0_isFull mv_X0_isFull mM_X1_78 ⟨Nat.le_of_ble_eq_true rfl, Nat.le_of_ble_eq_true rfl⟩ rfl rfl hl.1 (lv_room (Nat.le_of_ble_eq_true rfl)) dX1_closeWithVoid_8 rfl (fun H locs hW => ?_) ⟨Nat.zero_le _, Nat.zero_le _⟩
    refine zb_eq (tgt := 15) hx hb (cap b ≤ cN C 5 b 3) rfl dX1_closeWithVoid_11 (by decide) (fun h11 => ?_) (fun h11 => ?_)
    · refine lv_aload_n hx hb dX1_closeWithVoid_15 rfl (lv_at hl 0 rfl) ?_
      refine g3 (k := 1) (v := .ref (zad G 1 0)) hC hW hd (by decide) mF_X1_18 rfl dX1_closeWithVoid_16 ?_
      refine lv_dup hx hb dX1_closeWithVoid_19 rfl ?_
      refine g1 (k := 1) (v := .int (cF C 1 0 1)) hC hW (by decide) mF_X1_103 rfl dX1_closeWithVoid_20 ?_
      refine lv_iconst (v := 1) hx hb dX1_closeWithVoid_23 (by decide) ?_
      refine lv_iadd hx hb dX1_closeWithVoid_24 ?_
      refine p1 (k := 1) (v := (cF C 1 0 1) + 1) hC hW (by decide) mF_X1_103 dX1_closeWithVoid_25 (fun _ eS H locs hW => ?_)
      subst eS
      refine lv_aload_n hx hb dX1_closeWithVoid_28 rfl (lv_at hl 1 rfl) ?_
      refine lv_iconst (v := 4) hx hb dX1_closeWithVoid_29 (by decide) ?_
      refine lv_iconst (v := 0) hx hb dX1_closeWithVoid_30 (by decide) ?_
      refine lv_iconst (v := 0) hx hb dX1_closeWithVoid_31 (by decide) ?_
      refine z_callV (As := [.int 4, .int 0, .int 0]) (rest := []) (st1 := []) hC hW (LL_5 hb0) rfl rfl rfl (c_X0_add l G (sF C 1 0 1 ((cF C 1 0 1) + 1)) M hb0 (hI.1 b) 4 0 0) mw_X0_add mv_X0_add mM_X1_92 ⟨Nat.le_of_ble_eq_true rfl, Nat.le_of_ble_eq_true rfl⟩ rfl rfl hl.1 (lv_room (Nat.le_of_ble_eq_true rfl)) dX1_closeWithVoid_32 rfl (fun H locs hW => ?_) ⟨Nat.zero_le _, Nat.zero_le _⟩
      obtain ⟨C1, eC1⟩ : ∃ z, z = addC (sF C 1 0 1 ((cF C 1 0 1) + 1)) b 4 0 0 := ⟨_, rfl⟩
      rw [← eC1] at hW
      refine lv_aload_n hx hb dX1_closeWithVoid_35 rfl (lv_at hl 0 rfl) ?_
      refine lv_aload_n hx hb dX1_closeWithVoid_36 rfl (lv_at hl 1 rfl) ?_
      refine g5 (k := 3) (v := .int (nI (cN C1 5 b 3))) hC hW hb0 (by decide) mF_X1_96 rfl dX1_closeWithVoid_37 ?_
      refine p3N (k := 8) (v := cN C1 5 b 3) hC hW hd (by decide) rfl mF_X1_41 dX1_closeWithVoid_40 (fun _ eS H locs hW => ?_)
      subst eS
      have hD2 : cloC C d b = sN C1 3 d 8 (cN C1 5 b 3) := by unfold cloC; rw [if_neg (fun q => q h4), if_neg h11, eC1]; rfl
      rw [hD2] at hE
      exact hE hW dX1_closeWithVoid_43
    · have hD2 : cloC C d b = C := by unfold cloC; rw [if_neg (fun q => q h4), if_pos h11]
      rw [hD2] at hE
      exact hE hW dX1_closeWithVoid_14

set_option maxHeartbeats 4000000 in
set_option maxRecDepth 100000 in
theorem c_X1_endWriting (l : Launch) (G : GG) (C : CS) (M : MS) {d : Nat} (hd : d < 3) {t : Nat} (ht : t < zn G) (hM : cM C d = some t) (hI : Iv C) {h : Nat} (hh : h < 2 ^ 31) (w : Int32) : Ct l G yX1_endWriting cX1_endWriting 3 (some .int) 3 64 [.ref (zad G 3 d), .int (nI h), .int w] C M (some (.int ((endC C d t h w).1))) ((endC C d t h w).2) M := by
  refine Ct_i (by decide) (Nat.le_of_ble_eq_true rfl) (fun {p e s m args below meth c A Q ls} hC hW hl hE => ?_)
  have hx := hC.1
  have hb := hC.2.1
  have hl : lv_has ls 3 [(0, .ref (zad G 3 d)), (1, .int (nI h)), (2, .int w)] := hl
  have hcp := cap_le t
  have he := hI.1 t
  refine lv_iload_n hx hb dX1_endWriting_0 rfl (lv_at hl 2 rfl) ?_
  refine lv_if_ne (tgt := 6) hx hb dX1_endWriting_1 (by decide) (fun h1 => ?_) (fun h1 => ?_)
  · refine lv_aload_n hx hb dX1_endWriting_6 rfl (lv_at hl 0 rfl) ?_
    refine g3 (k := 6) (v := .ref (zad G 9 t)) hC hW hd (by decide) mF_X1_26 (by simp [fsD, va_rf, hM, cF_sF, cN_sN, cB_sB, cM_sM, cN_sF, cB_sF, cM_sF, cF_sN, cB_sN, cM_sN, cF_sB, cN_sB, cM_sB, cF_sM, cN_sM, cB_sM, mF_smF, mA_smF, mF_smA, mA_smA]) dX1_endWriting_7 ?_
    refine lv_ifnull hx hb dX1_endWriting_10 ?_
    refine lv_aload_n hx hb dX1_endWriting_13 rfl (lv_at hl 0 rfl) ?_
    refine g3 (k := 6) (v := .ref (zad G 9 t)) hC hW hd (by decide) mF_X1_26 (by simp [fsD, va_rf, hM, cF_sF, cN_sN, cB_sB, cM_sM, cN_sF, cB_sF, cM_sF, cF_sN, cB_sN, cM_sN, cF_sB, cN_sB, cM_sB, cF_sM, cN_sM, cB_sM, mF_smF, mA_smF, mF_smA, mA_smA]) dX1_endWriting_14 ?_
    refine g9 (k := 1) (v := .ref (zad G 5 t)) hC hW ht (by decide) mF_X1_74 rfl dX1_endWriting_17 ?_
    refine g5 (k := 3) (v := .int (nI (cN C 5 t 3))) hC hW (Or.inl ht) (by decide) mF_X1_96 rfl dX1_endWriting_20 ?_
    refine lv_iload_n hx hb dX1_endWriting_23 rfl (lv_at hl 1 rfl) ?_
    refine zc_le (i := cN C 5 t 3) (j := h) (tgt := 38) hx hb rfl rfl (by omega) (by omega) dX1_endWriting_24 (by decide) (fun h24 => ?_) (fun h24 => ?_)
    · refine lv_iload_n hx hb dX1_endWriting_38 rfl (lv_at hl 2 rfl) ?_
      have hD2 : endC C d t h w = (w, C) := by unfold endC; rw [if_pos h1, if_pos h24]
      rw [hD2] at hE
      exact hE hW rfl dX1_endWriting_39
    · refine lv_aload_n hx hb dX1_endWriting_27 rfl (lv_at hl 0 rfl) ?_
      refine lv_aload_n hx hb dX1_endWriting_28 rfl (lv_at hl 0 rfl) ?_
      refine g3 (k := 6) (v := .ref (zad G 9 t)) hC hW hd (by decide) mF_X1_26 (by simp [fsD, va_rf, hM, cF_sF, cN_sN, cB_sB, cM_sM, cN_sF, cB_sF, cM_sF, cF_sN, cB_sN, cM_sN, cF_sB, cN_sB, cM_sB, cF_sM, cN_sM, cB_sM, mF_smF, mA_smF, mF_smA, mA_smA]) dX1_endWriting_29 ?_
      refine g9 (k := 1) (v := .ref (zad G 5 t)) hC hW ht (by decide) mF_X1_74 rfl dX1_endWriting_32 ?_
      refine z_callV (As := [.ref (zad G 5 t)]) (rest := []) (st1 := []) hC hW (LL_3 hd) rfl rfl rfl (c_X1_closeWithVoid l G C M hd hI (Or.inl ht)) mw_X1_closeWithVoid mv_X1_closeWithVoid mM_X1_99 ⟨Nat.le_of_ble_eq_true rfl, Nat.le_of_ble_eq_true rfl⟩ rfl rfl hl.1 (lv_room (Nat.le_of_ble_eq_true rfl)) dX1_endWriting_35 rfl (fun H locs hW => ?_) ⟨Nat.zero_le _, Nat.zero_le _⟩
      obtain ⟨C1, eC1⟩ : ∃ z, z = cloC C d t := ⟨_, rfl⟩
      rw [← eC1] at hW
      refine lv_iload_n hx hb dX1_endWriting_38 rfl (lv_at hl 2 rfl) ?_
      have hD2 : endC C d t h w = (w, C1) := by unfold endC; rw [if_pos h1, if_neg (by omega), eC1]
      rw [hD2] at hE
      exact hE hW rfl dX1_endWriting_39
  · refine lv_iload_n hx hb dX1_endWriting_4 rfl (lv_at hl 1 rfl) ?_
    have hD2 : endC C d t h w = (nI h, C) := by unfold endC; rw [if_neg (fun q => q h1)]
    rw [hD2] at hE
    exact hE hW rfl dX1_endWriting_5

set_option maxHeartbeats 4000000 in
set_option maxRecDepth 100000 in
theorem c_X1_lookThrough (l : Launch) (G : GG) (C : CS) (M : MS) {d : Nat} (hd : d < 3) {t : Nat} (ht : t < zn G) (hM : cM C d = some t) (hI : Iv C) (hp : cN C 3 d 8 + cN C 5 t 3 ≤ 2 ^ 30) : Ct l G yX1_lookThrough cX1_lookThrough 4 (some .int) 3 62 [.ref (zad G 3 d)] C M (some (.int ((lookC C d t).1))) ((lookC C d t).2) M := by
  refine Ct_i (by decide) (Nat.le_of_ble_eq_true rfl) (fun {p e s m args below meth c A Q ls} hC hW hl hE => ?_)
  have hx := hC.1
  have hb := hC.2.1
  have hl : lv_has ls 4 [(0, .ref (zad G 3 d))] := hl
  have hcp := cap_le t
  have he := hI.1 t
  refine lv_iconst (v := 0) hx hb dX1_lookThrough_0 (by decide) ?_
  refine lv_istore_n (lv' := [(1, .int 0), (0, .ref (zad G 3 d))]) hx hb dX1_lookThrough_1 rfl hl (by decide) rfl (fun ls hl => ?_)
  refine lv_aload_n hx hb dX1_lookThrough_2 rfl (lv_at hl 1 rfl) ?_
  refine g3 (k := 6) (v := .ref (zad G 9 t)) hC hW hd (by decide) mF_X1_26 (by simp [fsD, va_rf, hM, cF_sF, cN_sN, cB_sB, cM_sM, cN_sF, cB_sF, cM_sF, cF_sN, cB_sN, cM_sN, cF_sB, cN_sB, cM_sB, cF_sM, cN_sM, cB_sM, mF_smF, mA_smF, mF_smA, mA_smA]) dX1_lookThrough_3 ?_
  refine lv_ifnonnull (tgt := 13) hx hb dX1_lookThrough_6 (by decide) ?_
  refine lv_aload_n hx hb dX1_lookThrough_13 rfl (lv_at hl 1 rfl) ?_
  refine g3 (k := 6) (v := .ref (zad G 9 t)) hC hW hd (by decide) mF_X1_26 (by simp [fsD, va_rf, hM, cF_sF, cN_sN, cB_sB, cM_sM, cN_sF, cB_sF, cM_sF, cF_sN, cB_sN, cM_sN, cF_sB, cN_sB, cM_sB, cF_sM, cN_sM, cB_sM, mF_smF, mA_smF, mF_smA, mA_smA]) dX1_lookThrough_14 ?_
  refine g9 (k := 1) (v := .ref (zad G 5 t)) hC hW ht (by decide) mF_X1_74 rfl dX1_lookThrough_17 ?_
  refine g5 (k := 3) (v := .int (nI (cN C 5 t 3))) hC hW (Or.inl ht) (by decide) mF_X1_96 rfl dX1_lookThrough_20 ?_
  refine lv_istore_n (lv' := [(2, .int (nI (cN C 5 t 3))), (1, .int 0), (0, .ref (zad G 3 d))]) hx hb dX1_lookThrough_23 rfl hl (by decide) rfl (fun ls hl => ?_)
  refine lv_iconst (v := 0) hx hb dX1_lookThrough_24 (by decide) ?_
  refine lv_istore_n (lv' := [(3, .int 0), (2, .int (nI (cN C 5 t 3))), (1, .int 0), (0, .ref (zad G 3 d))]) hx hb dX1_lookThrough_25 rfl hl (by decide) rfl (fun ls hl => ?_)
  have lp : ∀ (k : Nat) (j : Nat) (u : Int32) (Cj : CS), j + k = cN C 5 t 3 → cM Cj d = some t → cN Cj 3 d 8 + k ≤ 2 ^ 30 → ltL d t k u Cj = ltL d t (cN C 5 t 3) 0 C → ∀ (H : Heap) (locs : List Loc) (ls : Array Slot), Wd G s A s.heap H locs Cj M → lv_has ls 4 [(0, .ref (zad G 3 d)), (1, .int u), (2, .int (nI (cN C 5 t 3))), (3, .int (nI j))] → W p l e { frames := 3, cells := 0, slots := 0, locals := 62 } s m args below meth c H locs 0 0 Q (F0 m 26 ls []) := by
    intro k
    induction k with
    | zero =>
      intro j u Cj hk hMj hpj hD H locs ls hW hl
      refine lv_iload_n hx hb dX1_lookThrough_26 rfl (lv_at hl 3 rfl) ?_
      refine lv_iload_n hx hb dX1_lookThrough_27 rfl (lv_at hl 2 rfl) ?_
      refine zc_ge (i := j) (j := cN C 5 t 3) (tgt := 52) hx hb rfl rfl (by omega) (by omega) dX1_lookThrough_28 (by decide) (fun h28 => ?_) (fun h28 => ?_)
      · refine lv_iload_n hx hb dX1_lookThrough_52 rfl (lv_at hl 1 rfl) ?_
        refine lv_bipush (v := (-7)) hx hb dX1_lookThrough_53 (by decide) ?_
        refine lv_icmp_ne (tgt := 62) hx hb dX1_lookThrough_55 (by decide) (fun h55 => ?_) (fun h55 => ?_)
        · refine lv_iload_n hx hb dX1_lookThrough_62 rfl (lv_at hl 1 rfl) ?_
          have hD1 : ltL d t (cN C 5 t 3) 0 C = (u, Cj) := by rw [← hD, ltL]
          have hD2 : lookC C d t = (u, Cj) := by unfold lookC; rw [hD1]; show (if u = -7 then (0 : Int32) else u, Cj) = _; rw [if_neg h55]
          rw [hD2] at hE
          exact hE hW rfl dX1_lookThrough_63
        · refine lv_iconst (v := 0) hx hb dX1_lookThrough_58 (by decide) ?_
          refine lv_goto (tgt := 63) hx hb dX1_lookThrough_59 (by decide) ?_
          have hD1 : ltL d t (cN C 5 t 3) 0 C = (u, Cj) := by rw [← hD, ltL]
          have hD2 : lookC C d t = (0, Cj) := by unfold lookC; rw [hD1]; show (if u = -7 then (0 : Int32) else u, Cj) = _; rw [if_pos h55]
          rw [hD2] at hE
          exact hE hW rfl dX1_lookThrough_63
      · exact absurd h28 (by omega)
    | succ k ih =>
      intro j u Cj hk hMj hpj hD H locs ls hW hl
      refine lv_iload_n hx hb dX1_lookThrough_26 rfl (lv_at hl 3 rfl) ?_
      refine lv_iload_n hx hb dX1_lookThrough_27 rfl (lv_at hl 2 rfl) ?_
      refine zc_ge (i := j) (j := cN C 5 t 3) (tgt := 52) hx hb rfl rfl (by omega) (by omega) dX1_lookThrough_28 (by decide) (fun h28 => ?_) (fun h28 => ?_)
      · exact absurd h28 (by omega)
      · refine lv_iload_n hx hb dX1_lookThrough_31 rfl (lv_at hl 1 rfl) ?_
        refine lv_if_eq (tgt := 41) hx hb dX1_lookThrough_32 (by decide) (fun h32 => ?_) (fun h32 => ?_)
        · refine lv_aload_n hx hb dX1_lookThrough_41 rfl (lv_at hl 0 rfl) ?_
          refine z_callV (As := []) (rest := []) (st1 := [.int ((reaC Cj d t).1)]) hC hW (LL_3 hd) rfl rfl rfl (c_X1_readBlock l G Cj M hd ht hMj (by omega)) mw_X1_readBlock mv_X1_readBlock mM_X1_106 ⟨Nat.le_of_ble_eq_true rfl, Nat.le_of_ble_eq_true rfl⟩ rfl rfl hl.1 (lv_room (Nat.le_of_ble_eq_true rfl)) dX1_lookThrough_42 rfl (fun H locs hW => ?_) ⟨Nat.zero_le _, Nat.zero_le _⟩
          obtain ⟨C1, eC1⟩ : ∃ z, z = (reaC Cj d t).2 := ⟨_, rfl⟩
          rw [← eC1] at hW
          refine lv_istore_n (lv' := [(1, .int ((reaC Cj d t).1)), (0, .ref (zad G 3 d)), (2, .int (nI (cN C 5 t 3))), (3, .int (nI j))]) hx hb dX1_lookThrough_45 rfl hl (by decide) rfl (fun ls hl => ?_)
          refine lv_iinc (k := 3) (v := nI (j + 1)) (lv' := [(3, .int (nI (j + 1))), (1, .int ((reaC Cj d t).1)), (0, .ref (zad G 3 d)), (2, .int (nI (cN C 5 t 3)))]) hx hb dX1_lookThrough_46 hl rfl (nI_inc _) (by decide) rfl (fun ls hl => ?_)
          refine lv_goto (tgt := 26) hx hb dX1_lookThrough_49 (by decide) ?_
          exact ih (j + 1) ((reaC Cj d t).1) C1 (by omega) (by rw [eC1, reaC_2, pasC_M]; exact hMj) (by rw [eC1, reaC_2]; have := pasC_pos Cj d; omega) (by rw [← hD, ltL, if_pos (Or.inl h32), eC1]) _ _ _ hW (lv_sub hl [2, 1, 3, 0] rfl)
        · refine lv_iload_n hx hb dX1_lookThrough_35 rfl (lv_at hl 1 rfl) ?_
          refine lv_bipush (v := (-7)) hx hb dX1_lookThrough_36 (by decide) ?_
          refine lv_icmp_ne (tgt := 52) hx hb dX1_lookThrough_38 (by decide) (fun h38 => ?_) (fun h38 => ?_)
          · refine lv_iload_n hx hb dX1_lookThrough_52 rfl (lv_at hl 1 rfl) ?_
            refine lv_bipush (v := (-7)) hx hb dX1_lookThrough_53 (by decide) ?_
            refine lv_icmp_ne (tgt := 62) hx hb dX1_lookThrough_55 (by decide) (fun h55 => ?_) (fun h55 => ?_)
            · refine lv_iload_n hx hb dX1_lookThrough_62 rfl (lv_at hl 1 rfl) ?_
              have hD1 : ltL d t (cN C 5 t 3) 0 C = (u, Cj) := by rw [← hD, ltL, if_neg (fun q => q.elim h32 h38)]
              have hD2 : lookC C d t = (u, Cj) := by unfold lookC; rw [hD1]; show (if u = -7 then (0 : Int32) else u, Cj) = _; rw [if_neg h55]
              rw [hD2] at hE
              exact hE hW rfl dX1_lookThrough_63
            · refine lv_iconst (v := 0) hx hb dX1_lookThrough_58 (by decide) ?_
              refine lv_goto (tgt := 63) hx hb dX1_lookThrough_59 (by decide) ?_
              have hD1 : ltL d t (cN C 5 t 3) 0 C = (u, Cj) := by rw [← hD, ltL, if_neg (fun q => q.elim h32 h38)]
              have hD2 : lookC C d t = (0, Cj) := by unfold lookC; rw [hD1]; show (if u = -7 then (0 : Int32) else u, Cj) = _; rw [if_pos h55]
              rw [hD2] at hE
              exact hE hW rfl dX1_lookThrough_63
          · refine lv_aload_n hx hb dX1_lookThrough_41 rfl (lv_at hl 0 rfl) ?_
            refine z_callV (As := []) (rest := []) (st1 := [.int ((reaC Cj d t).1)]) hC hW (LL_3 hd) rfl rfl rfl (c_X1_readBlock l G Cj M hd ht hMj (by omega)) mw_X1_readBlock mv_X1_readBlock mM_X1_106 ⟨Nat.le_of_ble_eq_true rfl, Nat.le_of_ble_eq_true rfl⟩ rfl rfl hl.1 (lv_room (Nat.le_of_ble_eq_true rfl)) dX1_lookThrough_42 rfl (fun H locs hW => ?_) ⟨Nat.zero_le _, Nat.zero_le _⟩
            obtain ⟨C2, eC2⟩ : ∃ z, z = (reaC Cj d t).2 := ⟨_, rfl⟩
            rw [← eC2] at hW
            refine lv_istore_n (lv' := [(1, .int ((reaC Cj d t).1)), (0, .ref (zad G 3 d)), (2, .int (nI (cN C 5 t 3))), (3, .int (nI j))]) hx hb dX1_lookThrough_45 rfl hl (by decide) rfl (fun ls hl => ?_)
            refine lv_iinc (k := 3) (v := nI (j + 1)) (lv' := [(3, .int (nI (j + 1))), (1, .int ((reaC Cj d t).1)), (0, .ref (zad G 3 d)), (2, .int (nI (cN C 5 t 3)))]) hx hb dX1_lookThrough_46 hl rfl (nI_inc _) (by decide) rfl (fun ls hl => ?_)
            refine lv_goto (tgt := 26) hx hb dX1_lookThrough_49 (by decide) ?_
            exact ih (j + 1) ((reaC Cj d t).1) C2 (by omega) (by rw [eC2, reaC_2, pasC_M]; exact hMj) (by rw [eC2, reaC_2]; have := pasC_pos Cj d; omega) (by rw [← hD, ltL, if_pos (Or.inr h38), eC2]) _ _ _ hW (lv_sub hl [2, 1, 3, 0] rfl)
  exact lp (cN C 5 t 3) 0 0 C (by omega) hM hp rfl _ _ _ hW (lv_sub hl [3, 2, 1, 0] rfl)

set_option maxHeartbeats 4000000 in
set_option maxRecDepth 100000 in
theorem c_X1_bringHome (l : Launch) (G : GG) (C : CS) (M : MS) {d : Nat} (hd : d < 3) {t : Nat} (ht : t < zn G) (hM : cM C d = some t) : Ct l G yX1_bringHome cX1_bringHome 1 none 0 0 [.ref (zad G 3 d)] C M none (briC C d t) M := by
  refine Ct_v (by decide) (Nat.le_of_ble_eq_true rfl) (fun {p e s m args below meth c A Q ls} hC hW hl hE => ?_)
  have hx := hC.1
  have hb := hC.2.1
  have hl : lv_has ls 1 [(0, .ref (zad G 3 d))] := hl
  refine lv_aload_n hx hb dX1_bringHome_0 rfl (lv_at hl 0 rfl) ?_
  refine g3 (k := 1) (v := .ref (zad G 1 0)) hC hW hd (by decide) mF_X1_18 rfl dX1_bringHome_1 ?_
  refine lv_dup hx hb dX1_bringHome_4 rfl ?_
  refine g1 (k := 1) (v := .int (cF C 1 0 1)) hC hW (by decide) mF_X1_103 rfl dX1_bringHome_5 ?_
  refine lv_aload_n hx hb dX1_bringHome_8 rfl (lv_at hl 0 rfl) ?_
  refine g3 (k := 4) (v := .int (cF C 3 d 4)) hC hW hd (by decide) mF_X1_22 rfl dX1_bringHome_9 ?_
  refine lv_if_eq (tgt := 24) hx hb dX1_bringHome_12 (by decide) (fun h12 => ?_) (fun h12 => ?_)
  · refine lv_aload_n hx hb dX1_bringHome_24 rfl (lv_at hl 0 rfl) ?_
    refine g3 (k := 8) (v := .int (nI (cN C 3 d 8))) hC hW hd (by decide) mF_X1_41 rfl dX1_bringHome_25 ?_
    refine lv_iadd hx hb dX1_bringHome_28 ?_
    refine p1 (k := 1) (v := (cF C 1 0 1) + (nI (cN C 3 d 8))) hC hW (by decide) mF_X1_103 dX1_bringHome_29 (fun _ eS H locs hW => ?_)
    subst eS
    refine lv_aload_n hx hb dX1_bringHome_32 rfl (lv_at hl 0 rfl) ?_
    refine g3 (k := 6) (v := .ref (zad G 9 t)) hC hW hd (by decide) mF_X1_26 (by simp [fsD, va_rf, hM, cF_sF, cN_sN, cB_sB, cM_sM, cN_sF, cB_sF, cM_sF, cF_sN, cB_sN, cM_sN, cF_sB, cN_sB, cM_sB, cF_sM, cN_sM, cB_sM, mF_smF, mA_smF, mF_smA, mA_smA]) dX1_bringHome_33 ?_
    refine lv_ifnull hx hb dX1_bringHome_36 ?_
    refine lv_aload_n hx hb dX1_bringHome_39 rfl (lv_at hl 0 rfl) ?_
    refine g3 (k := 6) (v := .ref (zad G 9 t)) hC hW hd (by decide) mF_X1_26 (by simp [fsD, va_rf, hM, cF_sF, cN_sN, cB_sB, cM_sM, cN_sF, cB_sF, cM_sF, cF_sN, cB_sN, cM_sN, cF_sB, cN_sB, cM_sB, cF_sM, cN_sM, cB_sM, mF_smF, mA_smF, mF_smA, mA_smA]) dX1_bringHome_40 ?_
    refine lv_dup hx hb dX1_bringHome_43 rfl ?_
    refine g9 (k := 5) (v := .int (cF C 9 t 5)) hC hW ht (by decide) mF_X1_109 rfl dX1_bringHome_44 ?_
    refine lv_aload_n hx hb dX1_bringHome_47 rfl (lv_at hl 0 rfl) ?_
    refine g3 (k := 8) (v := .int (nI (cN C 3 d 8))) hC hW hd (by decide) mF_X1_41 rfl dX1_bringHome_48 ?_
    refine lv_iadd hx hb dX1_bringHome_51 ?_
    refine p9 (k := 5) (v := (cF C 9 t 5) + (nI (cN C 3 d 8))) hC hW ht (by decide) mF_X1_109 dX1_bringHome_52 (fun _ eS H locs hW => ?_)
    subst eS
    refine lv_aload_n hx hb dX1_bringHome_55 rfl (lv_at hl 0 rfl) ?_
    refine g3 (k := 1) (v := .ref (zad G 1 0)) hC hW hd (by decide) mF_X1_18 rfl dX1_bringHome_56 ?_
    refine lv_dup hx hb dX1_bringHome_59 rfl ?_
    refine g1 (k := 1) (v := .int ((cF C 1 0 1) + (nI (cN C 3 d 8)))) hC hW (by decide) mF_X1_103 rfl dX1_bringHome_60 ?_
    refine lv_aload_n hx hb dX1_bringHome_63 rfl (lv_at hl 0 rfl) ?_
    refine g3 (k := 7) (v := .int (nI (cN C 3 d 7))) hC hW hd (by decide) mF_X1_48 rfl dX1_bringHome_64 ?_
    refine lv_iadd hx hb dX1_bringHome_67 ?_
    refine p1 (k := 1) (v := ((cF C 1 0 1) + (nI (cN C 3 d 8))) + (nI (cN C 3 d 7))) hC hW (by decide) mF_X1_103 dX1_bringHome_68 (fun _ eS H locs hW => ?_)
    subst eS
    refine lv_aload_n hx hb dX1_bringHome_71 rfl (lv_at hl 0 rfl) ?_
    refine lv_null hx hb dX1_bringHome_72 ?_
    refine p3Mn hC hW hd mF_X1_26 dX1_bringHome_73 (fun _ eS H locs hW => ?_)
    subst eS
    have hD2 : briC C d t = sM (sF (sF (sF C 1 0 1 ((cF C 1 0 1) + (nI (cN C 3 d 8)))) 9 t 5 ((cF C 9 t 5) + (nI (cN C 3 d 8)))) 1 0 1 (((cF C 1 0 1) + (nI (cN C 3 d 8))) + (nI (cN C 3 d 7)))) d none := by unfold briC bri2 bri1; rw [if_pos h12]; rfl
    rw [hD2] at hE
    exact hE hW dX1_bringHome_76
  · refine lv_iconst (v := 3) hx hb dX1_bringHome_15 (by decide) ?_
    refine lv_aload_n hx hb dX1_bringHome_16 rfl (lv_at hl 0 rfl) ?_
    refine g3 (k := 8) (v := .int (nI (cN C 3 d 8))) hC hW hd (by decide) mF_X1_41 rfl dX1_bringHome_17 ?_
    refine zi_mul (i := 3) (j := cN C 3 d 8) hx hb rfl rfl dX1_bringHome_20 ?_
    refine lv_goto (tgt := 28) hx hb dX1_bringHome_21 (by decide) ?_
    refine lv_iadd hx hb dX1_bringHome_28 ?_
    refine p1 (k := 1) (v := (cF C 1 0 1) + (nI (3 * (cN C 3 d 8)))) hC hW (by decide) mF_X1_103 dX1_bringHome_29 (fun _ eS H locs hW => ?_)
    subst eS
    refine lv_aload_n hx hb dX1_bringHome_32 rfl (lv_at hl 0 rfl) ?_
    refine g3 (k := 6) (v := .ref (zad G 9 t)) hC hW hd (by decide) mF_X1_26 (by simp [fsD, va_rf, hM, cF_sF, cN_sN, cB_sB, cM_sM, cN_sF, cB_sF, cM_sF, cF_sN, cB_sN, cM_sN, cF_sB, cN_sB, cM_sB, cF_sM, cN_sM, cB_sM, mF_smF, mA_smF, mF_smA, mA_smA]) dX1_bringHome_33 ?_
    refine lv_ifnull hx hb dX1_bringHome_36 ?_
    refine lv_aload_n hx hb dX1_bringHome_39 rfl (lv_at hl 0 rfl) ?_
    refine g3 (k := 6) (v := .ref (zad G 9 t)) hC hW hd (by decide) mF_X1_26 (by simp [fsD, va_rf, hM, cF_sF, cN_sN, cB_sB, cM_sM, cN_sF, cB_sF, cM_sF, cF_sN, cB_sN, cM_sN, cF_sB, cN_sB, cM_sB, cF_sM, cN_sM, cB_sM, mF_smF, mA_smF, mF_smA, mA_smA]) dX1_bringHome_40 ?_
    refine lv_dup hx hb dX1_bringHome_43 rfl ?_
    refine g9 (k := 5) (v := .int (cF C 9 t 5)) hC hW ht (by decide) mF_X1_109 rfl dX1_bringHome_44 ?_
    refine lv_aload_n hx hb dX1_bringHome_47 rfl (lv_at hl 0 rfl) ?_
    refine g3 (k := 8) (v := .int (nI (cN C 3 d 8))) hC hW hd (by decide) mF_X1_41 rfl dX1_bringHome_48 ?_
    refine lv_iadd hx hb dX1_bringHome_51 ?_
    refine p9 (k := 5) (v := (cF C 9 t 5) + (nI (cN C 3 d 8))) hC hW ht (by decide) mF_X1_109 dX1_bringHome_52 (fun _ eS H locs hW => ?_)
    subst eS
    refine lv_aload_n hx hb dX1_bringHome_55 rfl (lv_at hl 0 rfl) ?_
    refine g3 (k := 1) (v := .ref (zad G 1 0)) hC hW hd (by decide) mF_X1_18 rfl dX1_bringHome_56 ?_
    refine lv_dup hx hb dX1_bringHome_59 rfl ?_
    refine g1 (k := 1) (v := .int ((cF C 1 0 1) + (nI (3 * (cN C 3 d 8))))) hC hW (by decide) mF_X1_103 rfl dX1_bringHome_60 ?_
    refine lv_aload_n hx hb dX1_bringHome_63 rfl (lv_at hl 0 rfl) ?_
    refine g3 (k := 7) (v := .int (nI (cN C 3 d 7))) hC hW hd (by decide) mF_X1_48 rfl dX1_bringHome_64 ?_
    refine lv_iadd hx hb dX1_bringHome_67 ?_
    refine p1 (k := 1) (v := ((cF C 1 0 1) + (nI (3 * (cN C 3 d 8)))) + (nI (cN C 3 d 7))) hC hW (by decide) mF_X1_103 dX1_bringHome_68 (fun _ eS H locs hW => ?_)
    subst eS
    refine lv_aload_n hx hb dX1_bringHome_71 rfl (lv_at hl 0 rfl) ?_
    refine lv_null hx hb dX1_bringHome_72 ?_
    refine p3Mn hC hW hd mF_X1_26 dX1_bringHome_73 (fun _ eS H locs hW => ?_)
    subst eS
    have hD2 : briC C d t = sM (sF (sF (sF C 1 0 1 ((cF C 1 0 1) + (nI (3 * (cN C 3 d 8))))) 9 t 5 ((cF C 9 t 5) + (nI (cN C 3 d 8)))) 1 0 1 (((cF C 1 0 1) + (nI (3 * (cN C 3 d 8)))) + (nI (cN C 3 d 7)))) d none := by unfold briC bri2 bri1; rw [if_neg h12]; rfl
    rw [hD2] at hE
    exact hE hW dX1_bringHome_76

