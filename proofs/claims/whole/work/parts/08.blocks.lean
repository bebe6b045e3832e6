/-! ===== the class: Effort, Blocks: what each method does ===== -/
def wkR (C : CS) : Int32 := bI (cF C 1 0 2 ≠ 0)
def wkC (C : CS) : CS := if cF C 1 0 2 = 0 then sF C 1 0 2 (-1) else if cF C 1 0 2 ≤ 0 then sF C 1 0 0 (cF C 1 0 0 + 1) else sF (sF C 1 0 2 (cF C 1 0 2 - 1)) 1 0 0 (cF C 1 0 0 + 1)
def fullP (C : CS) (b : Nat) : Prop := cap b ≤ cN C 5 b 3
/-- kind, value, size at a place, 0 where there is no block -/
def kAt (C : CS) (f b a : Nat) : Int32 := if a < cN C 5 b 3 then cB C f b a else 0
def addC (C : CS) (b : Nat) (k v z : Int32) : CS := if cap b ≤ cN C 5 b 3 then C else sN (sB (sB (sB C 6 b (cN C 5 b 3) k) 7 b (cN C 5 b 3) v) 8 b (cN C 5 b 3) z) 5 b 3 (cN C 5 b 3 + 1)
theorem cap_le (b : Nat) : cap b ≤ 100 := by unfold cap; split <;> decide
theorem cap_12 : cap 12 = 32 := rfl
theorem cap_t {b : Nat} (h : b < 12) : cap b = 100 := if_neg (by omega)

set_option maxHeartbeats 4000000 in
set_option maxRecDepth 100000 in
theorem c_X2_work (l : Launch) (G : GG) (C : CS) (M : MS)  : Ct l G yX2_work cX2_work 1 (some .boolean) 0 0 [.ref (zad G 1 0)] C M (some (.int (wkR C))) (wkC C) M := by
  refine Ct_z (by decide) (Nat.le_of_ble_eq_true rfl) (bI_01 _) (fun {p e s m args below meth c A Q ls} hC hW hl hE => ?_)
  have hx := hC.1
  have hb := hC.2.1
  have hl : lv_has ls 1 [(0, .ref (zad G 1 0))] := hl
  refine lv_aload_n hx hb dX2_work_0 rfl (lv_at hl 0 rfl) ?_
  refine g1 (k := 2) (v := .int (cF C 1 0 2)) hC hW (by decide) mF_X2_9 rfl dX2_work_1 ?_
  refine lv_if_ne (tgt := 14) hx hb dX2_work_4 (by decide) (fun h4 => ?_) (fun h4 => ?_)
  · refine lv_aload_n hx hb dX2_work_14 rfl (lv_at hl 0 rfl) ?_
    refine g1 (k := 2) (v := .int (cF C 1 0 2)) hC hW (by decide) mF_X2_9 rfl dX2_work_15 ?_
    refine lv_if_le (tgt := 31) hx hb dX2_work_18 (by decide) (fun h18 => ?_) (fun h18 => ?_)
    · refine lv_aload_n hx hb dX2_work_31 rfl (lv_at hl 0 rfl) ?_
      refine lv_dup hx hb dX2_work_32 rfl ?_
      refine g1 (k := 0) (v := .int (cF C 1 0 0)) hC hW (by decide) mF_X2_15 rfl dX2_work_33 ?_
      refine lv_iconst (v := 1) hx hb dX2_work_36 (by decide) ?_
      refine lv_iadd hx hb dX2_work_37 ?_
      refine p1 (k := 0) (v := (cF C 1 0 0) + 1) hC hW (by decide) mF_X2_15 dX2_work_38 (fun _ eS H locs hW => ?_)
      subst eS
      refine lv_iconst (v := 1) hx hb dX2_work_41 (by decide) ?_
      have qC : sF C 1 0 0 ((cF C 1 0 0) + 1) = wkC C := by simp [wkC, wkR, h4, h18, cF_sF, cN_sN, cB_sB, cM_sM, cN_sF, cB_sF, cM_sF, cF_sN, cB_sN, cM_sN, cF_sB, cN_sB, cM_sB, cF_sM, cN_sM, cB_sM, mF_smF, mA_smF, mF_smA, mA_smA]
      rw [qC] at hW
      have qr : (1 : Int32) = wkR C := by simp [bI, wkC, wkR, h4, h18, cF_sF, cN_sN, cB_sB, cM_sM, cN_sF, cB_sF, cM_sF, cF_sN, cB_sN, cM_sN, cF_sB, cN_sB, cM_sB, cF_sM, cN_sM, cB_sM, mF_smF, mA_smF, mF_smA, mA_smA]
      exact hE hW qr dX2_work_42
    · refine lv_aload_n hx hb dX2_work_21 rfl (lv_at hl 0 rfl) ?_
      refine lv_dup hx hb dX2_work_22 rfl ?_
      refine g1 (k := 2) (v := .int (cF C 1 0 2)) hC hW (by decide) mF_X2_9 rfl dX2_work_23 ?_
      refine lv_iconst (v := 1) hx hb dX2_work_26 (by decide) ?_
      refine lv_isub hx hb dX2_work_27 ?_
      refine p1 (k := 2) (v := (cF C 1 0 2) - 1) hC hW (by decide) mF_X2_9 dX2_work_28 (fun _ eS H locs hW => ?_)
      subst eS
      refine lv_aload_n hx hb dX2_work_31 rfl (lv_at hl 0 rfl) ?_
      refine lv_dup hx hb dX2_work_32 rfl ?_
      refine g1 (k := 0) (v := .int (cF C 1 0 0)) hC hW (by decide) mF_X2_15 rfl dX2_work_33 ?_
      refine lv_iconst (v := 1) hx hb dX2_work_36 (by decide) ?_
      refine lv_iadd hx hb dX2_work_37 ?_
      refine p1 (k := 0) (v := (cF C 1 0 0) + 1) hC hW (by decide) mF_X2_15 dX2_work_38 (fun _ eS H locs hW => ?_)
      subst eS
      refine lv_iconst (v := 1) hx hb dX2_work_41 (by decide) ?_
      have qC : sF (sF C 1 0 2 ((cF C 1 0 2) - 1)) 1 0 0 ((cF C 1 0 0) + 1) = wkC C := by simp [wkC, wkR, h4, h18, cF_sF, cN_sN, cB_sB, cM_sM, cN_sF, cB_sF, cM_sF, cF_sN, cB_sN, cM_sN, cF_sB, cN_sB, cM_sB, cF_sM, cN_sM, cB_sM, mF_smF, mA_smF, mF_smA, mA_smA]
      rw [qC] at hW
      have qr : (1 : Int32) = wkR C := by simp [bI, wkC, wkR, h4, h18, cF_sF, cN_sN, cB_sB, cM_sM, cN_sF, cB_sF, cM_sF, cF_sN, cB_sN, cM_sN, cF_sB, cN_sB, cM_sB, cF_sM, cN_sM, cB_sM, mF_smF, mA_smF, mF_smA, mA_smA]
      exact hE hW qr dX2_work_42
  · refine lv_aload_n hx hb dX2_work_7 rfl (lv_at hl 0 rfl) ?_
    refine lv_iconst (v := (-1)) hx hb dX2_work_8 (by decide) ?_
    refine p1 (k := 2) (v := (-1)) hC hW (by decide) mF_X2_9 dX2_work_9 (fun _ eS H locs hW => ?_)
    subst eS
    refine lv_iconst (v := 0) hx hb dX2_work_12 (by decide) ?_
    have qC : sF C 1 0 2 (-1) = wkC C := by simp [wkC, wkR, h4, cF_sF, cN_sN, cB_sB, cM_sM, cN_sF, cB_sF, cM_sF, cF_sN, cB_sN, cM_sN, cF_sB, cN_sB, cM_sB, cF_sM, cN_sM, cB_sM, mF_smF, mA_smF, mF_smA, mA_smA]
    rw [qC] at hW
    have qr : (0 : Int32) = wkR C := by simp [bI, wkC, wkR, h4, cF_sF, cN_sN, cB_sB, cM_sM, cN_sF, cB_sF, cM_sF, cF_sN, cB_sN, cM_sN, cF_sB, cN_sB, cM_sB, cF_sM, cN_sM, cB_sM, mF_smF, mA_smF, mF_smA, mA_smA]
    exact hE hW qr dX2_work_13

set_option maxHeartbeats 4000000 in
set_option maxRecDepth 100000 in
theorem c_X0_clear (l : Launch) (G : GG) (C : CS) (M : MS) {b : Nat} (hb0 : isB (zn G) b) : Ct l G yX0_clear cX0_clear 1 none 0 0 [.ref (zad G 5 b)] C M none (sN C 5 b 3 0) M := by
  refine Ct_v (by decide) (Nat.le_of_ble_eq_true rfl) (fun {p e s m args below meth c A Q ls} hC hW hl hE => ?_)
  have hx := hC.1
  have hb := hC.2.1
  have hl : lv_has ls 1 [(0, .ref (zad G 5 b))] := hl
  refine lv_aload_n hx hb dX0_clear_0 rfl (lv_at hl 0 rfl) ?_
  refine lv_iconst (v := 0) hx hb dX0_clear_1 (by decide) ?_
  refine p5 (v := 0) hC hW hb0 rfl mF_X0_19 dX0_clear_2 (fun _ eS H locs hW => ?_)
  subst eS
  exact hE hW dX0_clear_5

set_option maxHeartbeats 4000000 in
set_option maxRecDepth 100000 in
theorem c_X0_isFull (l : Launch) (G : GG) (C : CS) (M : MS) {b : Nat} (hb0 : isB (zn G) b) (he : cN C 5 b 3 ≤ cap b) : Ct l G yX0_isFull cX0_isFull 1 (some .boolean) 0 0 [.ref (zad G 5 b)] C M (some (.int (bI (cap b ≤ cN C 5 b 3)))) C M := by
  refine Ct_z (by decide) (Nat.le_of_ble_eq_true rfl) (bI_01 _) (fun {p e s m args below meth c A Q ls} hC hW hl hE => ?_)
  have hx := hC.1
  have hb := hC.2.1
  have hl : lv_has ls 1 [(0, .ref (zad G 5 b))] := hl
  have hcp := cap_le b
  refine lv_aload_n hx hb dX0_isFull_0 rfl (lv_at hl 0 rfl) ?_
  refine g5 (k := 3) (v := .int (nI (cN C 5 b 3))) hC hW hb0 (by decide) mF_X0_19 rfl dX0_isFull_1 ?_
  refine lv_aload_n hx hb dX0_isFull_4 rfl (lv_at hl 0 rfl) ?_
  refine g5 (k := 0) (v := .ref (zad G 6 b)) hC hW hb0 (by decide) mF_X0_7 rfl dX0_isFull_5 ?_
  refine alen6 hC hW hb0 dX0_isFull_8 ?_
  refine zc_lt (i := cN C 5 b 3) (j := cap b) (tgt := 16) hx hb rfl rfl (by omega) (by omega) dX0_isFull_9 (by decide) (fun h9 => ?_) (fun h9 => ?_)
  · refine lv_iconst (v := 0) hx hb dX0_isFull_16 (by decide) ?_
    have qr : (0 : Int32) = bI (cap b ≤ cN C 5 b 3) := by simp [bI, h9, cF_sF, cN_sN, cB_sB, cM_sM, cN_sF, cB_sF, cM_sF, cF_sN, cB_sN, cM_sN, cF_sB, cN_sB, cM_sB, cF_sM, cN_sM, cB_sM, mF_smF, mA_smF, mF_smA, mA_smA]
    exact hE hW qr dX0_isFull_17
  · refine lv_iconst (v := 1) hx hb dX0_isFull_12 (by decide) ?_
    refine lv_goto (tgt := 17) hx hb dX0_isFull_13 (by decide) ?_
    have qr : (1 : Int32) = bI (cap b ≤ cN C 5 b 3) := by simp [bI, h9, cF_sF, cN_sN, cB_sB, cM_sM, cN_sF, cB_sF, cM_sF, cF_sN, cB_sN, cM_sN, cF_sB, cN_sB, cM_sB, cF_sM, cN_sM, cB_sM, mF_smF, mA_smF, mF_smA, mA_smA]
    exact hE hW qr dX0_isFull_17

set_option maxHeartbeats 4000000 in
set_option maxRecDepth 100000 in
theorem c_X0_add (l : Launch) (G : GG) (C : CS) (M : MS) {b : Nat} (hb0 : isB (zn G) b) (he : cN C 5 b 3 ≤ cap b) (k v z : Int32) : Ct l G yX0_add cX0_add 4 none 1 20 [.ref (zad G 5 b), .int k, .int v, .int z] C M none (addC C b k v z) M := by
  refine Ct_v (by decide) (Nat.le_of_ble_eq_true rfl) (fun {p e s m args below meth c A Q ls} hC hW hl hE => ?_)
  have hx := hC.1
  have hb := hC.2.1
  have hl : lv_has ls 4 [(0, .ref (zad G 5 b)), (1, .int k), (2, .int v), (3, .int z)] := hl
  have hcp := cap_le b
  refine lv_aload_n hx hb dX0_add_0 rfl (lv_at hl 0 rfl) ?_
  refine z_callV (As := []) (rest := []) (st1 := [.int (bI (cap b ≤ cN C 5 b 3))]) hC hW (LL_5 hb0) rfl rfl rfl (c_X0_isFull l G C M hb0 he) mw_X0_isFull mv_X0_isFull mM_X0_23 ⟨Nat.le_of_ble_eq_true rfl, Nat.le_of_ble_eq_true rfl⟩ rfl rfl hl.1 (lv_room (Nat.le_of_ble_eq_true rfl)) dX0_add_1 rfl (fun H locs hW => ?_) ⟨Nat.zero_le _, Nat.zero_le _⟩
  refine zb_eq (tgt := 8) hx hb (cap b ≤ cN C 5 b 3) rfl dX0_add_4 (by decide) (fun h4 => ?_) (fun h4 => ?_)
  · refine lv_aload_n hx hb dX0_add_8 rfl (lv_at hl 0 rfl) ?_
    refine g5 (k := 0) (v := .ref (zad G 6 b)) hC hW hb0 (by decide) mF_X0_7 rfl dX0_add_9 ?_
    refine lv_aload_n hx hb dX0_add_12 rfl (lv_at hl 0 rfl) ?_
    refine g5 (k := 3) (v := .int (nI (cN C 5 b 3))) hC hW hb0 (by decide) mF_X0_19 rfl dX0_add_13 ?_
    refine lv_iload_n hx hb dX0_add_16 rfl (lv_at hl 1 rfl) ?_
    refine s678 (f := 6) (j := cN C 5 b 3) (v := k) hC hW (by decide) hb0 (rfl) (by omega) dX0_add_17 (fun _ eS H locs hW => ?_)
    subst eS
    refine lv_aload_n hx hb dX0_add_18 rfl (lv_at hl 0 rfl) ?_
    refine g5 (k := 1) (v := .ref (zad G 7 b)) hC hW hb0 (by decide) mF_X0_13 rfl dX0_add_19 ?_
    refine lv_aload_n hx hb dX0_add_22 rfl (lv_at hl 0 rfl) ?_
    refine g5 (k := 3) (v := .int (nI (cN C 5 b 3))) hC hW hb0 (by decide) mF_X0_19 rfl dX0_add_23 ?_
    refine lv_iload_n hx hb dX0_add_26 rfl (lv_at hl 2 rfl) ?_
    refine s678 (f := 7) (j := cN C 5 b 3) (v := v) hC hW (by decide) hb0 (rfl) (by omega) dX0_add_27 (fun _ eS H locs hW => ?_)
    subst eS
    refine lv_aload_n hx hb dX0_add_28 rfl (lv_at hl 0 rfl) ?_
    refine g5 (k := 2) (v := .ref (zad G 8 b)) hC hW hb0 (by decide) mF_X0_16 rfl dX0_add_29 ?_
    refine lv_aload_n hx hb dX0_add_32 rfl (lv_at hl 0 rfl) ?_
    refine g5 (k := 3) (v := .int (nI (cN C 5 b 3))) hC hW hb0 (by decide) mF_X0_19 rfl dX0_add_33 ?_
    refine lv_iload_n hx hb dX0_add_36 rfl (lv_at hl 3 rfl) ?_
    refine s678 (f := 8) (j := cN C 5 b 3) (v := z) hC hW (by decide) hb0 (rfl) (by omega) dX0_add_37 (fun _ eS H locs hW => ?_)
    subst eS
    refine lv_aload_n hx hb dX0_add_38 rfl (lv_at hl 0 rfl) ?_
    refine lv_dup hx hb dX0_add_39 rfl ?_
    refine g5 (k := 3) (v := .int (nI (cN C 5 b 3))) hC hW hb0 (by decide) mF_X0_19 rfl dX0_add_40 ?_
    refine lv_iconst (v := 1) hx hb dX0_add_43 (by decide) ?_
    refine zi_add (i := cN C 5 b 3) (j := 1) hx hb rfl rfl dX0_add_44 ?_
    refine p5 (v := cN C 5 b 3 + 1) hC hW hb0 rfl mF_X0_19 dX0_add_45 (fun _ eS H locs hW => ?_)
    subst eS
    have qC : sN (sB (sB (sB C 6 b (cN C 5 b 3) k) 7 b (cN C 5 b 3) v) 8 b (cN C 5 b 3) z) 5 b 3 (cN C 5 b 3 + 1) = addC C b k v z := by simp [addC, h4, cF_sF, cN_sN, cB_sB, cM_sM, cN_sF, cB_sF, cM_sF, cF_sN, cB_sN, cM_sN, cF_sB, cN_sB, cM_sB, cF_sM, cN_sM, cB_sM, mF_smF, mA_smF, mF_smA, mA_smA]
    rw [qC] at hW
    exact hE hW dX0_add_48
  · have qC : C = addC C b k v z := by simp [addC, h4, cF_sF, cN_sN, cB_sB, cM_sM, cN_sF, cB_sF, cM_sF, cF_sN, cB_sN, cM_sN, cF_sB, cN_sB, cM_sB, cF_sM, cN_sM, cB_sM, mF_smF, mA_smF, mF_smA, mA_smA]
    rw [qC] at hW
    exact hE hW dX0_add_7

set_option maxHeartbeats 4000000 in
set_option maxRecDepth 100000 in
theorem c_X0_has (l : Launch) (G : GG) (C : CS) (M : MS) {b : Nat} (hb0 : isB (zn G) b) (he : cN C 5 b 3 ≤ cap b) {a : Nat} (ha : a < 2 ^ 31) : Ct l G yX0_has cX0_has 2 (some .boolean) 0 0 [.ref (zad G 5 b), .int (nI a)] C M (some (.int (bI (a < cN C 5 b 3)))) C M := by
  refine Ct_z (by decide) (Nat.le_of_ble_eq_true rfl) (bI_01 _) (fun {p e s m args below meth c A Q ls} hC hW hl hE => ?_)
  have hx := hC.1
  have hb := hC.2.1
  have hl : lv_has ls 2 [(0, .ref (zad G 5 b)), (1, .int (nI a))] := hl
  have hcp := cap_le b
  refine lv_iload_n hx hb dX0_has_0 rfl (lv_at hl 1 rfl) ?_
  refine zf_lt (i := a) (tgt := 16) hx hb rfl (by omega) dX0_has_1 (by decide) ?_
  refine lv_iload_n hx hb dX0_has_4 rfl (lv_at hl 1 rfl) ?_
  refine lv_aload_n hx hb dX0_has_5 rfl (lv_at hl 0 rfl) ?_
  refine g5 (k := 3) (v := .int (nI (cN C 5 b 3))) hC hW hb0 (by decide) mF_X0_19 rfl dX0_has_6 ?_
  refine zc_ge (i := a) (j := cN C 5 b 3) (tgt := 16) hx hb rfl rfl (by omega) (by omega) dX0_has_9 (by decide) (fun h9 => ?_) (fun h9 => ?_)
  · refine lv_iconst (v := 0) hx hb dX0_has_16 (by decide) ?_
    have qr : (0 : Int32) = bI (a < cN C 5 b 3) := by simp [bI, h9, cF_sF, cN_sN, cB_sB, cM_sM, cN_sF, cB_sF, cM_sF, cF_sN, cB_sN, cM_sN, cF_sB, cN_sB, cM_sB, cF_sM, cN_sM, cB_sM, mF_smF, mA_smF, mF_smA, mA_smA]
    exact hE hW qr dX0_has_17
  · refine lv_iconst (v := 1) hx hb dX0_has_12 (by decide) ?_
    refine lv_goto (tgt := 17) hx hb dX0_has_13 (by decide) ?_
    have qr : (1 : Int32) = bI (a < cN C 5 b 3) := by simp [bI, h9, cF_sF, cN_sN, cB_sB, cM_sM, cN_sF, cB_sF, cM_sF, cF_sN, cB_sN, cM_sN, cF_sB, cN_sB, cM_sB, cF_sM, cN_sM, cB_sM, mF_smF, mA_smF, mF_smA, mA_smA]
    exact hE hW qr dX0_has_17

set_option maxHeartbeats 4000000 in
set_option maxRecDepth 100000 in
theorem c_X0_kindAt (l : Launch) (G : GG) (C : CS) (M : MS) {b : Nat} (hb0 : isB (zn G) b) (he : cN C 5 b 3 ≤ cap b) {a : Nat} (ha : a < 2 ^ 31) : Ct l G yX0_kindAt cX0_kindAt 2 (some .int) 1 21 [.ref (zad G 5 b), .int (nI a)] C M (some (.int (kAt C 6 b a))) C M := by
  refine Ct_i (by decide) (Nat.le_of_ble_eq_true rfl) (fun {p e s m args below meth c A Q ls} hC hW hl hE => ?_)
  have hx := hC.1
  have hb := hC.2.1
  have hl : lv_has ls 2 [(0, .ref (zad G 5 b)), (1, .int (nI a))] := hl
  have hcp := cap_le b
  refine lv_aload_n hx hb dX0_kindAt_0 rfl (lv_at hl 0 rfl) ?_
  refine lv_iload_n hx hb dX0_kindAt_1 rfl (lv_at hl 1 rfl) ?_
  refine z_callV (As := [.int (nI a)]) (rest := []) (st1 := [.int (bI (a < cN C 5 b 3))]) hC hW (LL_5 hb0) rfl rfl rfl (c_X0_has l G C M hb0 he ha) mw_X0_has mv_X0_has mM_X0_27 ⟨Nat.le_of_ble_eq_true rfl, Nat.le_of_ble_eq_true rfl⟩ rfl rfl hl.1 (lv_room (Nat.le_of_ble_eq_true rfl)) dX0_kindAt_2 rfl (fun H locs hW => ?_) ⟨Nat.zero_le _, Nat.zero_le _⟩
  refine zb_eq (tgt := 17) hx hb (a < cN C 5 b 3) rfl dX0_kindAt_5 (by decide) (fun h5 => ?_) (fun h5 => ?_)
  · refine lv_iconst (v := 0) hx hb dX0_kindAt_17 (by decide) ?_
    have qr : (0 : Int32) = kAt C 6 b a := by simp [bI, kAt, h5, cF_sF, cN_sN, cB_sB, cM_sM, cN_sF, cB_sF, cM_sF, cF_sN, cB_sN, cM_sN, cF_sB, cN_sB, cM_sB, cF_sM, cN_sM, cB_sM, mF_smF, mA_smF, mF_smA, mA_smA]
    exact hE hW qr dX0_kindAt_18
  · refine lv_aload_n hx hb dX0_kindAt_8 rfl (lv_at hl 0 rfl) ?_
    refine g5 (k := 0) (v := .ref (zad G 6 b)) hC hW hb0 (by decide) mF_X0_7 rfl dX0_kindAt_9 ?_
    refine lv_iload_n hx hb dX0_kindAt_12 rfl (lv_at hl 1 rfl) ?_
    refine a6 (j := a) hC hW hb0 (rfl) (by omega) dX0_kindAt_13 ?_
    refine lv_goto (tgt := 18) hx hb dX0_kindAt_14 (by decide) ?_
    have qr : (cB C 6 b a : Int32) = kAt C 6 b a := by simp [bI, kAt, h5, cF_sF, cN_sN, cB_sB, cM_sM, cN_sF, cB_sF, cM_sF, cF_sN, cB_sN, cM_sN, cF_sB, cN_sB, cM_sB, cF_sM, cN_sM, cB_sM, mF_smF, mA_smF, mF_smA, mA_smA]
    exact hE hW qr dX0_kindAt_18

set_option maxHeartbeats 4000000 in
set_option maxRecDepth 100000 in
theorem c_X0_valueAt (l : Launch) (G : GG) (C : CS) (M : MS) {b : Nat} (hb0 : isB (zn G) b) (he : cN C 5 b 3 ≤ cap b) {a : Nat} (ha : a < 2 ^ 31) : Ct l G yX0_valueAt cX0_valueAt 2 (some .int) 1 21 [.ref (zad G 5 b), .int (nI a)] C M (some (.int (kAt C 7 b a))) C M := by
  refine Ct_i (by decide) (Nat.le_of_ble_eq_true rfl) (fun {p e s m args below meth c A Q ls} hC hW hl hE => ?_)
  have hx := hC.1
  have hb := hC.2.1
  have hl : lv_has ls 2 [(0, .ref (zad G 5 b)), (1, .int (nI a))] := hl
  have hcp := cap_le b
  refine lv_aload_n hx hb dX0_valueAt_0 rfl (lv_at hl 0 rfl) ?_
  refine lv_iload_n hx hb dX0_valueAt_1 rfl (lv_at hl 1 rfl) ?_
  refine z_callV (As := [.int (nI a)]) (rest := []) (st1 := [.int (bI (a < cN C 5 b 3))]) hC hW (LL_5 hb0) rfl rfl rfl (c_X0_has l G C M hb0 he ha) mw_X0_has mv_X0_has mM_X0_27 ⟨Nat.le_of_ble_eq_true rfl, Nat.le_of_ble_eq_true rfl⟩ rfl rfl hl.1 (lv_room (Nat.le_of_ble_eq_true rfl)) dX0_valueAt_2 rfl (fun H locs hW => ?_) ⟨Nat.zero_le _, Nat.zero_le _⟩
  refine zb_eq (tgt := 17) hx hb (a < cN C 5 b 3) rfl dX0_valueAt_5 (by decide) (fun h5 => ?_) (fun h5 => ?_)
  · refine lv_iconst (v := 0) hx hb dX0_valueAt_17 (by decide) ?_
    have qr : (0 : Int32) = kAt C 7 b a := by simp [bI, kAt, h5, cF_sF, cN_sN, cB_sB, cM_sM, cN_sF, cB_sF, cM_sF, cF_sN, cB_sN, cM_sN, cF_sB, cN_sB, cM_sB, cF_sM, cN_sM, cB_sM, mF_smF, mA_smF, mF_smA, mA_smA]
    exact hE hW qr dX0_valueAt_18
  · refine lv_aload_n hx hb dX0_valueAt_8 rfl (lv_at hl 0 rfl) ?_
    refine g5 (k := 1) (v := .ref (zad G 7 b)) hC hW hb0 (by decide) mF_X0_13 rfl dX0_valueAt_9 ?_
    refine lv_iload_n hx hb dX0_valueAt_12 rfl (lv_at hl 1 rfl) ?_
    refine a7 (j := a) hC hW hb0 (rfl) (by omega) dX0_valueAt_13 ?_
    refine lv_goto (tgt := 18) hx hb dX0_valueAt_14 (by decide) ?_
    have qr : (cB C 7 b a : Int32) = kAt C 7 b a := by simp [bI, kAt, h5, cF_sF, cN_sN, cB_sB, cM_sM, cN_sF, cB_sF, cM_sF, cF_sN, cB_sN, cM_sN, cF_sB, cN_sB, cM_sB, cF_sM, cN_sM, cB_sM, mF_smF, mA_smF, mF_smA, mA_smA]
    exact hE hW qr dX0_valueAt_18

set_option maxHeartbeats 4000000 in
set_option maxRecDepth 100000 in
theorem c_X0_sizeAt (l : Launch) (G : GG) (C : CS) (M : MS) {b : Nat} (hb0 : isB (zn G) b) (he : cN C 5 b 3 ≤ cap b) {a : Nat} (ha : a < 2 ^ 31) : Ct l G yX0_sizeAt cX0_sizeAt 2 (some .int) 1 21 [.ref (zad G 5 b), .int (nI a)] C M (some (.int (kAt C 8 b a))) C M := by
  refine Ct_i (by decide) (Nat.le_of_ble_eq_true rfl) (fun {p e s m args below meth c A Q ls} hC hW hl hE => ?_)
  have hx := hC.1
  have hb := hC.2.1
  have hl : lv_has ls 2 [(0, .ref (zad G 5 b)), (1, .int (nI a))] := hl
  have hcp := cap_le b
  refine lv_aload_n hx hb dX0_sizeAt_0 rfl (lv_at hl 0 rfl) ?_
  refine lv_iload_n hx hb dX0_sizeAt_1 rfl (lv_at hl 1 rfl) ?_
  refine z_callV (As := [.int (nI a)]) (rest := []) (st1 := [.int (bI (a < cN C 5 b 3))]) hC hW (LL_5 hb0) rfl rfl rfl (c_X0_has l G C M hb0 he ha) mw_X0_has mv_X0_has mM_X0_27 ⟨Nat.le_of_ble_eq_true rfl, Nat.le_of_ble_eq_true rfl⟩ rfl rfl hl.1 (lv_room (Nat.le_of_ble_eq_true rfl)) dX0_sizeAt_2 rfl (fun H locs hW => ?_) ⟨Nat.zero_le _, Nat.zero_le _⟩
  refine zb_eq (tgt := 17) hx hb (a < cN C 5 b 3) rfl dX0_sizeAt_5 (by decide) (fun h5 => ?_) (fun h5 => ?_)
  · refine lv_iconst (v := 0) hx hb dX0_sizeAt_17 (by decide) ?_
    have qr : (0 : Int32) = kAt C 8 b a := by simp [bI, kAt, h5, cF_sF, cN_sN, cB_sB, cM_sM, cN_sF, cB_sF, cM_sF, cF_sN, cB_sN, cM_sN, cF_sB, cN_sB, cM_sB, cF_sM, cN_sM, cB_sM, mF_smF, mA_smF, mF_smA, mA_smA]
    exact hE hW qr dX0_sizeAt_18
  · refine lv_aload_n hx hb dX0_sizeAt_8 rfl (lv_at hl 0 rfl) ?_
    refine g5 (k := 2) (v := .ref (zad G 8 b)) hC hW hb0 (by decide) mF_X0_16 rfl dX0_sizeAt_9 ?_
    refine lv_iload_n hx hb dX0_sizeAt_12 rfl (lv_at hl 1 rfl) ?_
    refine a8 (j := a) hC hW hb0 (rfl) (by omega) dX0_sizeAt_13 ?_
    refine lv_goto (tgt := 18) hx hb dX0_sizeAt_14 (by decide) ?_
    have qr : (cB C 8 b a : Int32) = kAt C 8 b a := by simp [bI, kAt, h5, cF_sF, cN_sN, cB_sB, cM_sM, cN_sF, cB_sF, cM_sF, cF_sN, cB_sN, cM_sN, cF_sB, cN_sB, cM_sB, cF_sM, cN_sM, cB_sM, mF_smF, mA_smF, mF_smA, mA_smA]
    exact hE hW qr dX0_sizeAt_18

