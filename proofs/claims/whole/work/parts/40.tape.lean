/-! ===== tape, without the cells that it makes ===== -/
def mtpL (M : MS) (x : Int32) : Nat → Nat → Bool → Bool
  | 0, _, g => g
  | k + 1, j, g => mtpL M x k (j + 1) (g && !decide (mA M 1 j = x))
theorem inP_cell (x : Int32) : inP x 0 31 ↔ (¬ x < 0 ∧ ¬ 32 ≤ x) := by
  have h1 : (31 : Int32).toInt = 31 := rfl
  have h2 : (32 : Int32).toInt = 32 := rfl
  have h3 : (0 : Int32).toInt = 0 := rfl
  simp only [inP, Int32.lt_iff_toInt_lt, Int32.le_iff_toInt_le, h1, h2, h3]
  omega
theorem mtpL_f {M : MS} {x : Int32} : ∀ (k j : Nat), mtpL M x k j false = false := by
  intro k
  induction k with
  | zero => intro j; rfl
  | succ k ih => intro j; unfold mtpL; rw [Bool.false_and]; exact ih _
theorem mtpL_hm {C : CS} {M : MS} {x : Int32} : ∀ (k j : Nat), (∀ t, j ≤ t → t < j + k → mA M 1 t = nI (cN C 9 t 0)) → mtpL M x k j true = !hmL C x k j := by
  intro k
  induction k with
  | zero => intro j _; rfl
  | succ k ih =>
    intro j h
    unfold mtpL hmL
    rw [h j (Nat.le_refl _) (by omega), Bool.true_and]
    by_cases q : nI (cN C 9 j 0) = x
    · rw [if_pos q, decide_eq_true q]
      exact mtpL_f _ _
    · rw [if_neg q, decide_eq_false q]
      exact ih (j + 1) (fun t h1 h2 => h t (by omega) (by omega))

set_option maxHeartbeats 4000000 in
set_option maxRecDepth 100000 in
theorem m_tap_b (l : Launch) (G : GG) (C : CS) (M : MS) {n : Nat} (hle : n ≤ 12) (hn : mF M 0 = nI n) (x : Int32) (hg : mtpL M x n 0 (decide (inP x 0 31)) = false) : Ct l G yX5_tape cX5_tape 4 (some .int) 1 22 [.ref (zad G 12 0), .int x] C M (some (.int (-1))) C M := by
  refine Ct_i (by decide) (Nat.le_of_ble_eq_true rfl) (fun {p e s m args below meth c A Q ls} hC hW hl hE => ?_)
  have hx := hC.1
  have hb := hC.2.1
  have hl : lv_has ls 4 [(0, .ref (zad G 12 0)), (1, .int x)] := hl
  refine lv_iload_n hx hb dX5_tape_0 rfl (lv_at hl 1 rfl) ?_
  refine lv_iconst (v := 0) hx hb dX5_tape_1 (by decide) ?_
  refine lv_bipush (v := 31) hx hb dX5_tape_2 (by decide) ?_
  refine z_callS (rest := []) (st1 := [.int (bI (inP x 0 31))]) hC hW (c_X5_in l G C M x 0 31) mw_X5_in mT_X5_in mM_X5_78 ⟨Nat.le_of_ble_eq_true rfl, Nat.le_of_ble_eq_true rfl⟩ rfl rfl hl.1 (lv_room (Nat.le_of_ble_eq_true rfl)) dX5_tape_4 rfl (fun H locs hW => ?_) ⟨Nat.zero_le _, Nat.zero_le _⟩
  refine lv_istore_n (lv' := [(2, .int (bI (inP x 0 31))), (0, .ref (zad G 12 0)), (1, .int x)]) hx hb dX5_tape_7 rfl hl (by decide) rfl (fun ls hl => ?_)
  refine lv_iconst (v := 0) hx hb dX5_tape_8 (by decide) ?_
  refine lv_istore_n (lv' := [(3, .int 0), (2, .int (bI (inP x 0 31))), (0, .ref (zad G 12 0)), (1, .int x)]) hx hb dX5_tape_9 rfl hl (by decide) rfl (fun ls hl => ?_)
  have hb0 : bI (inP x 0 31) = bI (decide (inP x 0 31) = true) := bI_c ⟨fun q => decide_eq_true q, fun q => of_decide_eq_true q⟩
  have hl : lv_has ls 4 [(3, .int 0), (2, .int (bI (decide (inP x 0 31) = true))), (0, .ref (zad G 12 0)), (1, .int x)] := by rw [← hb0]; exact hl
  have lp : ∀ (k : Nat) (j : Nat) (g : Bool), j + k = n → mtpL M x k j g = mtpL M x n 0 (decide (inP x 0 31)) → ∀ (H : Heap) (locs : List Loc) (ls : Array Slot), Wd G s A s.heap H locs C M → lv_has ls 4 [(0, .ref (zad G 12 0)), (1, .int x), (2, .int (bI (g = true))), (3, .int (nI j))] → W p l e { frames := 1, cells := 0, slots := 0, locals := 22 } s m args below meth c H locs 0 0 Q (F0 m 10 ls []) := by
    intro k
    induction k with
    | zero =>
      intro j g hk hD H locs ls hW hl
      refine lv_iload_n hx hb dX5_tape_10 rfl (lv_at hl 3 rfl) ?_
      refine lv_aload_n hx hb dX5_tape_11 rfl (lv_at hl 0 rfl) ?_
      refine g12 (k := 0) (v := .int (mF M 0)) hC hW (by decide) mF_X5_75 rfl dX5_tape_12 ?_
      refine z_top (y := nI n) (hn) ?_
      refine zc_ge (i := j) (j := n) (tgt := 44) hx hb rfl rfl (by omega) (by omega) dX5_tape_15 (by decide) (fun h15 => ?_) (fun h15 => ?_)
      · have hgg : g = mtpL M x n 0 (decide (inP x 0 31)) := by rw [← hD]; rfl
        refine lv_iload_n hx hb dX5_tape_44 rfl (lv_at hl 2 rfl) ?_
        refine zb_ne (tgt := 50) hx hb (g = true) rfl dX5_tape_45 (by decide) (fun h45 => ?_) (fun h45 => ?_)
        · exact absurd (hgg.symm.trans h45) (by rw [hg]; decide)
        · refine lv_iconst (v := (-1)) hx hb dX5_tape_48 (by decide) ?_
          have qr : ((-1) : Int32) = -1 := by simp [bI, hk, hD, h15, h45, cF_sF, cN_sN, cB_sB, cM_sM, cN_sF, cB_sF, cM_sF, cF_sN, cB_sN, cM_sN, cF_sB, cN_sB, cM_sB, cF_sM, cN_sM, cB_sM, mF_smF, mA_smF, mF_smA, mA_smA]
          exact hE hW qr dX5_tape_49
      · exact absurd h15 (by omega)
    | succ k ih =>
      intro j g hk hD H locs ls hW hl
      refine lv_iload_n hx hb dX5_tape_10 rfl (lv_at hl 3 rfl) ?_
      refine lv_aload_n hx hb dX5_tape_11 rfl (lv_at hl 0 rfl) ?_
      refine g12 (k := 0) (v := .int (mF M 0)) hC hW (by decide) mF_X5_75 rfl dX5_tape_12 ?_
      refine z_top (y := nI n) (hn) ?_
      refine zc_ge (i := j) (j := n) (tgt := 44) hx hb rfl rfl (by omega) (by omega) dX5_tape_15 (by decide) (fun h15 => ?_) (fun h15 => ?_)
      · exact absurd h15 (by omega)
      · refine lv_iload_n hx hb dX5_tape_18 rfl (lv_at hl 2 rfl) ?_
        refine zb_eq (tgt := 36) hx hb (g = true) rfl dX5_tape_19 (by decide) (fun h19 => ?_) (fun h19 => ?_)
        · refine lv_iconst (v := 0) hx hb dX5_tape_36 (by decide) ?_
          refine lv_istore_n (lv' := [(2, .int 0), (0, .ref (zad G 12 0)), (1, .int x), (3, .int (nI j))]) hx hb dX5_tape_37 rfl hl (by decide) rfl (fun ls hl => ?_)
          refine lv_iinc (k := 3) (v := nI (j + 1)) (lv' := [(3, .int (nI (j + 1))), (2, .int 0), (0, .ref (zad G 12 0)), (1, .int x)]) hx hb dX5_tape_38 hl rfl (nI_inc _) (by decide) rfl (fun ls hl => ?_)
          refine lv_goto (tgt := 10) hx hb dX5_tape_41 (by decide) ?_
          exact ih (j + 1) false (by omega) (by rw [← hD, mtpL]; congr 1; simp [h19]) _ _ _ hW (lv_sub hl [2, 3, 1, 0] rfl)
        · refine lv_aload_n hx hb dX5_tape_22 rfl (lv_at hl 0 rfl) ?_
          refine g12 (k := 1) (v := .ref (zad G 13 1)) hC hW (by decide) mF_X5_7 rfl dX5_tape_23 ?_
          refine lv_iload_n hx hb dX5_tape_26 rfl (lv_at hl 3 rfl) ?_
          refine am (i := j) (n := 12) hC hW (by decide) rfl rfl (rfl) (by omega) dX5_tape_27 ?_
          refine lv_iload_n hx hb dX5_tape_28 rfl (lv_at hl 1 rfl) ?_
          refine lv_icmp_eq (tgt := 36) hx hb dX5_tape_29 (by decide) (fun h29 => ?_) (fun h29 => ?_)
          · refine lv_iconst (v := 0) hx hb dX5_tape_36 (by decide) ?_
            refine lv_istore_n (lv' := [(2, .int 0), (0, .ref (zad G 12 0)), (1, .int x), (3, .int (nI j))]) hx hb dX5_tape_37 rfl hl (by decide) rfl (fun ls hl => ?_)
            refine lv_iinc (k := 3) (v := nI (j + 1)) (lv' := [(3, .int (nI (j + 1))), (2, .int 0), (0, .ref (zad G 12 0)), (1, .int x)]) hx hb dX5_tape_38 hl rfl (nI_inc _) (by decide) rfl (fun ls hl => ?_)
            refine lv_goto (tgt := 10) hx hb dX5_tape_41 (by decide) ?_
            exact ih (j + 1) false (by omega) (by rw [← hD, mtpL]; congr 1; simp [h19, h29]) _ _ _ hW (lv_sub hl [2, 3, 1, 0] rfl)
          · refine lv_iconst (v := 1) hx hb dX5_tape_32 (by decide) ?_
            refine lv_goto (tgt := 37) hx hb dX5_tape_33 (by decide) ?_
            refine lv_istore_n (lv' := [(2, .int 1), (0, .ref (zad G 12 0)), (1, .int x), (3, .int (nI j))]) hx hb dX5_tape_37 rfl hl (by decide) rfl (fun ls hl => ?_)
            refine lv_iinc (k := 3) (v := nI (j + 1)) (lv' := [(3, .int (nI (j + 1))), (2, .int 1), (0, .ref (zad G 12 0)), (1, .int x)]) hx hb dX5_tape_38 hl rfl (nI_inc _) (by decide) rfl (fun ls hl => ?_)
            refine lv_goto (tgt := 10) hx hb dX5_tape_41 (by decide) ?_
            exact ih (j + 1) true (by omega) (by rw [← hD, mtpL]; congr 1; simp [h19, h29]) _ _ _ hW (lv_sub hl [2, 3, 1, 0] rfl)
  exact lp n 0 (decide (inP x 0 31)) (by omega) rfl _ _ _ hW (lv_sub hl [2, 3, 1, 0] rfl)

set_option maxHeartbeats 4000000 in
set_option maxRecDepth 100000 in
theorem m_tap_12 (l : Launch) (G : GG) (C : CS) (M : MS) {n : Nat} (hle : n ≤ 12) (hn : mF M 0 = nI n) (x : Int32) (hg : mtpL M x n 0 (decide (inP x 0 31)) = true) (h12 : n = 12) : Ct l G yX5_tape cX5_tape 4 (some .int) 1 22 [.ref (zad G 12 0), .int x] C M (some (.int (-6))) C M := by
  refine Ct_i (by decide) (Nat.le_of_ble_eq_true rfl) (fun {p e s m args below meth c A Q ls} hC hW hl hE => ?_)
  have hx := hC.1
  have hb := hC.2.1
  have hl : lv_has ls 4 [(0, .ref (zad G 12 0)), (1, .int x)] := hl
  refine lv_iload_n hx hb dX5_tape_0 rfl (lv_at hl 1 rfl) ?_
  refine lv_iconst (v := 0) hx hb dX5_tape_1 (by decide) ?_
  refine lv_bipush (v := 31) hx hb dX5_tape_2 (by decide) ?_
  refine z_callS (rest := []) (st1 := [.int (bI (inP x 0 31))]) hC hW (c_X5_in l G C M x 0 31) mw_X5_in mT_X5_in mM_X5_78 ⟨Nat.le_of_ble_eq_true rfl, Nat.le_of_ble_eq_true rfl⟩ rfl rfl hl.1 (lv_room (Nat.le_of_ble_eq_true rfl)) dX5_tape_4 rfl (fun H locs hW => ?_) ⟨Nat.zero_le _, Nat.zero_le _⟩
  refine lv_istore_n (lv' := [(2, .int (bI (inP x 0 31))), (0, .ref (zad G 12 0)), (1, .int x)]) hx hb dX5_tape_7 rfl hl (by decide) rfl (fun ls hl => ?_)
  refine lv_iconst (v := 0) hx hb dX5_tape_8 (by decide) ?_
  refine lv_istore_n (lv' := [(3, .int 0), (2, .int (bI (inP x 0 31))), (0, .ref (zad G 12 0)), (1, .int x)]) hx hb dX5_tape_9 rfl hl (by decide) rfl (fun ls hl => ?_)
  have hb0 : bI (inP x 0 31) = bI (decide (inP x 0 31) = true) := bI_c ⟨fun q => decide_eq_true q, fun q => of_decide_eq_true q⟩
  have hl : lv_has ls 4 [(3, .int 0), (2, .int (bI (decide (inP x 0 31) = true))), (0, .ref (zad G 12 0)), (1, .int x)] := by rw [← hb0]; exact hl
  have lp : ∀ (k : Nat) (j : Nat) (g : Bool), j + k = n → mtpL M x k j g = mtpL M x n 0 (decide (inP x 0 31)) → ∀ (H : Heap) (locs : List Loc) (ls : Array Slot), Wd G s A s.heap H locs C M → lv_has ls 4 [(0, .ref (zad G 12 0)), (1, .int x), (2, .int (bI (g = true))), (3, .int (nI j))] → W p l e { frames := 1, cells := 0, slots := 0, locals := 22 } s m args below meth c H locs 0 0 Q (F0 m 10 ls []) := by
    intro k
    induction k with
    | zero =>
      intro j g hk hD H locs ls hW hl
      refine lv_iload_n hx hb dX5_tape_10 rfl (lv_at hl 3 rfl) ?_
      refine lv_aload_n hx hb dX5_tape_11 rfl (lv_at hl 0 rfl) ?_
      refine g12 (k := 0) (v := .int (mF M 0)) hC hW (by decide) mF_X5_75 rfl dX5_tape_12 ?_
      refine z_top (y := nI n) (hn) ?_
      refine zc_ge (i := j) (j := n) (tgt := 44) hx hb rfl rfl (by omega) (by omega) dX5_tape_15 (by decide) (fun h15 => ?_) (fun h15 => ?_)
      · have hgg : g = mtpL M x n 0 (decide (inP x 0 31)) := by rw [← hD]; rfl
        refine lv_iload_n hx hb dX5_tape_44 rfl (lv_at hl 2 rfl) ?_
        refine zb_ne (tgt := 50) hx hb (g = true) rfl dX5_tape_45 (by decide) (fun h45 => ?_) (fun h45 => ?_)
        · refine lv_aload_n hx hb dX5_tape_50 rfl (lv_at hl 0 rfl) ?_
          refine g12 (k := 0) (v := .int (mF M 0)) hC hW (by decide) mF_X5_75 rfl dX5_tape_51 ?_
          refine z_top (y := nI n) (hn) ?_
          refine lv_bipush (v := 12) hx hb dX5_tape_54 (by decide) ?_
          refine zc_ne (i := n) (j := 12) (tgt := 62) hx hb rfl rfl (by omega) (by omega) dX5_tape_56 (by decide) (fun h56 => ?_) (fun h56 => ?_)
          · exact absurd h12 h56
          · refine lv_bipush (v := (-6)) hx hb dX5_tape_59 (by decide) ?_
            have qr : ((-6) : Int32) = -6 := by simp [bI, hk, hD, h15, h45, h56, cF_sF, cN_sN, cB_sB, cM_sM, cN_sF, cB_sF, cM_sF, cF_sN, cB_sN, cM_sN, cF_sB, cN_sB, cM_sB, cF_sM, cN_sM, cB_sM, mF_smF, mA_smF, mF_smA, mA_smA]
            exact hE hW qr dX5_tape_61
        · exact absurd (hgg.trans hg) h45
      · exact absurd h15 (by omega)
    | succ k ih =>
      intro j g hk hD H locs ls hW hl
      refine lv_iload_n hx hb dX5_tape_10 rfl (lv_at hl 3 rfl) ?_
      refine lv_aload_n hx hb dX5_tape_11 rfl (lv_at hl 0 rfl) ?_
      refine g12 (k := 0) (v := .int (mF M 0)) hC hW (by decide) mF_X5_75 rfl dX5_tape_12 ?_
      refine z_top (y := nI n) (hn) ?_
      refine zc_ge (i := j) (j := n) (tgt := 44) hx hb rfl rfl (by omega) (by omega) dX5_tape_15 (by decide) (fun h15 => ?_) (fun h15 => ?_)
      · exact absurd h15 (by omega)
      · refine lv_iload_n hx hb dX5_tape_18 rfl (lv_at hl 2 rfl) ?_
        refine zb_eq (tgt := 36) hx hb (g = true) rfl dX5_tape_19 (by decide) (fun h19 => ?_) (fun h19 => ?_)
        · refine lv_iconst (v := 0) hx hb dX5_tape_36 (by decide) ?_
          refine lv_istore_n (lv' := [(2, .int 0), (0, .ref (zad G 12 0)), (1, .int x), (3, .int (nI j))]) hx hb dX5_tape_37 rfl hl (by decide) rfl (fun ls hl => ?_)
          refine lv_iinc (k := 3) (v := nI (j + 1)) (lv' := [(3, .int (nI (j + 1))), (2, .int 0), (0, .ref (zad G 12 0)), (1, .int x)]) hx hb dX5_tape_38 hl rfl (nI_inc _) (by decide) rfl (fun ls hl => ?_)
          refine lv_goto (tgt := 10) hx hb dX5_tape_41 (by decide) ?_
          exact ih (j + 1) false (by omega) (by rw [← hD, mtpL]; congr 1; simp [h19]) _ _ _ hW (lv_sub hl [2, 3, 1, 0] rfl)
        · refine lv_aload_n hx hb dX5_tape_22 rfl (lv_at hl 0 rfl) ?_
          refine g12 (k := 1) (v := .ref (zad G 13 1)) hC hW (by decide) mF_X5_7 rfl dX5_tape_23 ?_
          refine lv_iload_n hx hb dX5_tape_26 rfl (lv_at hl 3 rfl) ?_
          refine am (i := j) (n := 12) hC hW (by decide) rfl rfl (rfl) (by omega) dX5_tape_27 ?_
          refine lv_iload_n hx hb dX5_tape_28 rfl (lv_at hl 1 rfl) ?_
          refine lv_icmp_eq (tgt := 36) hx hb dX5_tape_29 (by decide) (fun h29 => ?_) (fun h29 => ?_)
          · refine lv_iconst (v := 0) hx hb dX5_tape_36 (by decide) ?_
            refine lv_istore_n (lv' := [(2, .int 0), (0, .ref (zad G 12 0)), (1, .int x), (3, .int (nI j))]) hx hb dX5_tape_37 rfl hl (by decide) rfl (fun ls hl => ?_)
            refine lv_iinc (k := 3) (v := nI (j + 1)) (lv' := [(3, .int (nI (j + 1))), (2, .int 0), (0, .ref (zad G 12 0)), (1, .int x)]) hx hb dX5_tape_38 hl rfl (nI_inc _) (by decide) rfl (fun ls hl => ?_)
            refine lv_goto (tgt := 10) hx hb dX5_tape_41 (by decide) ?_
            exact ih (j + 1) false (by omega) (by rw [← hD, mtpL]; congr 1; simp [h19, h29]) _ _ _ hW (lv_sub hl [2, 3, 1, 0] rfl)
          · refine lv_iconst (v := 1) hx hb dX5_tape_32 (by decide) ?_
            refine lv_goto (tgt := 37) hx hb dX5_tape_33 (by decide) ?_
            refine lv_istore_n (lv' := [(2, .int 1), (0, .ref (zad G 12 0)), (1, .int x), (3, .int (nI j))]) hx hb dX5_tape_37 rfl hl (by decide) rfl (fun ls hl => ?_)
            refine lv_iinc (k := 3) (v := nI (j + 1)) (lv' := [(3, .int (nI (j + 1))), (2, .int 1), (0, .ref (zad G 12 0)), (1, .int x)]) hx hb dX5_tape_38 hl rfl (nI_inc _) (by decide) rfl (fun ls hl => ?_)
            refine lv_goto (tgt := 10) hx hb dX5_tape_41 (by decide) ?_
            exact ih (j + 1) true (by omega) (by rw [← hD, mtpL]; congr 1; simp [h19, h29]) _ _ _ hW (lv_sub hl [2, 3, 1, 0] rfl)
  exact lp n 0 (decide (inP x 0 31)) (by omega) rfl _ _ _ hW (lv_sub hl [2, 3, 1, 0] rfl)

set_option maxHeartbeats 4000000 in
set_option maxRecDepth 100000 in
theorem m_tap_1 (l : Launch) (G : GG) (C : CS) (M : MS) {n : Nat} (hle : n ≤ 12) (hn : mF M 0 = nI n) (x : Int32) (hg : mtpL M x n 0 (decide (inP x 0 31)) = true) (h12 : n < 12) : Ct l G yX5_tape cX5_tape 4 (some .int) 1 22 [.ref (zad G 12 0), .int x] C M (some (.int (nI n))) C (smF (smA M 1 n x) 0 (nI (n + 1))) := by
  refine Ct_i (by decide) (Nat.le_of_ble_eq_true rfl) (fun {p e s m args below meth c A Q ls} hC hW hl hE => ?_)
  have hx := hC.1
  have hb := hC.2.1
  have hl : lv_has ls 4 [(0, .ref (zad G 12 0)), (1, .int x)] := hl
  refine lv_iload_n hx hb dX5_tape_0 rfl (lv_at hl 1 rfl) ?_
  refine lv_iconst (v := 0) hx hb dX5_tape_1 (by decide) ?_
  refine lv_bipush (v := 31) hx hb dX5_tape_2 (by decide) ?_
  refine z_callS (rest := []) (st1 := [.int (bI (inP x 0 31))]) hC hW (c_X5_in l G C M x 0 31) mw_X5_in mT_X5_in mM_X5_78 ⟨Nat.le_of_ble_eq_true rfl, Nat.le_of_ble_eq_true rfl⟩ rfl rfl hl.1 (lv_room (Nat.le_of_ble_eq_true rfl)) dX5_tape_4 rfl (fun H locs hW => ?_) ⟨Nat.zero_le _, Nat.zero_le _⟩
  refine lv_istore_n (lv' := [(2, .int (bI (inP x 0 31))), (0, .ref (zad G 12 0)), (1, .int x)]) hx hb dX5_tape_7 rfl hl (by decide) rfl (fun ls hl => ?_)
  refine lv_iconst (v := 0) hx hb dX5_tape_8 (by decide) ?_
  refine lv_istore_n (lv' := [(3, .int 0), (2, .int (bI (inP x 0 31))), (0, .ref (zad G 12 0)), (1, .int x)]) hx hb dX5_tape_9 rfl hl (by decide) rfl (fun ls hl => ?_)
  have hb0 : bI (inP x 0 31) = bI (decide (inP x 0 31) = true) := bI_c ⟨fun q => decide_eq_true q, fun q => of_decide_eq_true q⟩
  have hl : lv_has ls 4 [(3, .int 0), (2, .int (bI (decide (inP x 0 31) = true))), (0, .ref (zad G 12 0)), (1, .int x)] := by rw [← hb0]; exact hl
  have lp : ∀ (k : Nat) (j : Nat) (g : Bool), j + k = n → mtpL M x k j g = mtpL M x n 0 (decide (inP x 0 31)) → ∀ (H : Heap) (locs : List Loc) (ls : Array Slot), Wd G s A s.heap H locs C M → lv_has ls 4 [(0, .ref (zad G 12 0)), (1, .int x), (2, .int (bI (g = true))), (3, .int (nI j))] → W p l e { frames := 1, cells := 0, slots := 0, locals := 22 } s m args below meth c H locs 0 0 Q (F0 m 10 ls []) := by
    intro k
    induction k with
    | zero =>
      intro j g hk hD H locs ls hW hl
      refine lv_iload_n hx hb dX5_tape_10 rfl (lv_at hl 3 rfl) ?_
      refine lv_aload_n hx hb dX5_tape_11 rfl (lv_at hl 0 rfl) ?_
      refine g12 (k := 0) (v := .int (mF M 0)) hC hW (by decide) mF_X5_75 rfl dX5_tape_12 ?_
      refine z_top (y := nI n) (hn) ?_
      refine zc_ge (i := j) (j := n) (tgt := 44) hx hb rfl rfl (by omega) (by omega) dX5_tape_15 (by decide) (fun h15 => ?_) (fun h15 => ?_)
      · have hgg : g = mtpL M x n 0 (decide (inP x 0 31)) := by rw [← hD]; rfl
        refine lv_iload_n hx hb dX5_tape_44 rfl (lv_at hl 2 rfl) ?_
        refine zb_ne (tgt := 50) hx hb (g = true) rfl dX5_tape_45 (by decide) (fun h45 => ?_) (fun h45 => ?_)
        · refine lv_aload_n hx hb dX5_tape_50 rfl (lv_at hl 0 rfl) ?_
          refine g12 (k := 0) (v := .int (mF M 0)) hC hW (by decide) mF_X5_75 rfl dX5_tape_51 ?_
          refine z_top (y := nI n) (hn) ?_
          refine lv_bipush (v := 12) hx hb dX5_tape_54 (by decide) ?_
          refine zc_ne (i := n) (j := 12) (tgt := 62) hx hb rfl rfl (by omega) (by omega) dX5_tape_56 (by decide) (fun h56 => ?_) (fun h56 => ?_)
          · refine lv_aload_n hx hb dX5_tape_62 rfl (lv_at hl 0 rfl) ?_
            refine g12 (k := 1) (v := .ref (zad G 13 1)) hC hW (by decide) mF_X5_7 rfl dX5_tape_63 ?_
            refine lv_aload_n hx hb dX5_tape_66 rfl (lv_at hl 0 rfl) ?_
            refine g12 (k := 0) (v := .int (mF M 0)) hC hW (by decide) mF_X5_75 rfl dX5_tape_67 ?_
            refine z_top (y := nI n) (hn) ?_
            refine lv_iload_n hx hb dX5_tape_70 rfl (lv_at hl 1 rfl) ?_
            refine sm (i := n) (n := 12) (v := x) hC hW (by decide) rfl rfl (rfl) (by omega) dX5_tape_71 (fun _ eS H locs hW => ?_)
            subst eS
            refine lv_aload_n hx hb dX5_tape_72 rfl (lv_at hl 0 rfl) ?_
            refine lv_dup hx hb dX5_tape_73 rfl ?_
            refine g12 (k := 0) (v := .int (mF M 0)) hC hW (by decide) mF_X5_75 rfl dX5_tape_74 ?_
            refine z_top (y := nI n) (hn) ?_
            refine lv_iconst (v := 1) hx hb dX5_tape_77 (by decide) ?_
            refine zi_add (i := n) (j := 1) hx hb rfl rfl dX5_tape_78 ?_
            refine p12 (k := 0) (v := nI (n + 1)) hC hW (by decide) mF_X5_75 dX5_tape_79 (fun _ eS H locs hW => ?_)
            subst eS
            refine lv_aload_n hx hb dX5_tape_82 rfl (lv_at hl 0 rfl) ?_
            refine g12 (k := 0) (v := .int (nI (n + 1))) hC hW (by decide) mF_X5_75 rfl dX5_tape_83 ?_
            refine z_top (y := nI (n + 1)) rfl ?_
            refine lv_iconst (v := 1) hx hb dX5_tape_86 (by decide) ?_
            refine zi_sub (i := n + 1) (j := 1) hx hb rfl rfl (by omega) dX5_tape_87 ?_
            have qr : (nI ((n + 1) - 1) : Int32) = nI n := by rw [show n + 1 - 1 = n by omega]
            exact hE hW qr dX5_tape_88
          · exact absurd h56 (by omega)
        · exact absurd (hgg.trans hg) h45
      · exact absurd h15 (by omega)
    | succ k ih =>
      intro j g hk hD H locs ls hW hl
      refine lv_iload_n hx hb dX5_tape_10 rfl (lv_at hl 3 rfl) ?_
      refine lv_aload_n hx hb dX5_tape_11 rfl (lv_at hl 0 rfl) ?_
      refine g12 (k := 0) (v := .int (mF M 0)) hC hW (by decide) mF_X5_75 rfl dX5_tape_12 ?_
      refine z_top (y := nI n) (hn) ?_
      refine zc_ge (i := j) (j := n) (tgt := 44) hx hb rfl rfl (by omega) (by omega) dX5_tape_15 (by decide) (fun h15 => ?_) (fun h15 => ?_)
      · exact absurd h15 (by omega)
      · refine lv_iload_n hx hb dX5_tape_18 rfl (lv_at hl 2 rfl) ?_
        refine zb_eq (tgt := 36) hx hb (g = true) rfl dX5_tape_19 (by decide) (fun h19 => ?_) (fun h19 => ?_)
        · refine lv_iconst (v := 0) hx hb dX5_tape_36 (by decide) ?_
          refine lv_istore_n (lv' := [(2, .int 0), (0, .ref (zad G 12 0)), (1, .int x), (3, .int (nI j))]) hx hb dX5_tape_37 rfl hl (by decide) rfl (fun ls hl => ?_)
          refine lv_iinc (k := 3) (v := nI (j + 1)) (lv' := [(3, .int (nI (j + 1))), (2, .int 0), (0, .ref (zad G 12 0)), (1, .int x)]) hx hb dX5_tape_38 hl rfl (nI_inc _) (by decide) rfl (fun ls hl => ?_)
          refine lv_goto (tgt := 10) hx hb dX5_tape_41 (by decide) ?_
          exact ih (j + 1) false (by omega) (by rw [← hD, mtpL]; congr 1; simp [h19]) _ _ _ hW (lv_sub hl [2, 3, 1, 0] rfl)
        · refine lv_aload_n hx hb dX5_tape_22 rfl (lv_at hl 0 rfl) ?_
          refine g12 (k := 1) (v := .ref (zad G 13 1)) hC hW (by decide) mF_X5_7 rfl dX5_tape_23 ?_
          refine lv_iload_n hx hb dX5_tape_26 rfl (lv_at hl 3 rfl) ?_
          refine am (i := j) (n := 12) hC hW (by decide) rfl rfl (rfl) (by omega) dX5_tape_27 ?_
          refine lv_iload_n hx hb dX5_tape_28 rfl (lv_at hl 1 rfl) ?_
          refine lv_icmp_eq (tgt := 36) hx hb dX5_tape_29 (by decide) (fun h29 => ?_) (fun h29 => ?_)
          · refine lv_iconst (v := 0) hx hb dX5_tape_36 (by decide) ?_
            refine lv_istore_n (lv' := [(2, .int 0), (0, .ref (zad G 12 0)), (1, .int x), (3, .int (nI j))]) hx hb dX5_tape_37 rfl hl (by decide) rfl (fun ls hl => ?_)
            refine lv_iinc (k := 3) (v := nI (j + 1)) (lv' := [(3, .int (nI (j + 1))), (2, .int 0), (0, .ref (zad G 12 0)), (1, .int x)]) hx hb dX5_tape_38 hl rfl (nI_inc _) (by decide) rfl (fun ls hl => ?_)
            refine lv_goto (tgt := 10) hx hb dX5_tape_41 (by decide) ?_
            exact ih (j + 1) false (by omega) (by rw [← hD, mtpL]; congr 1; simp [h19, h29]) _ _ _ hW (lv_sub hl [2, 3, 1, 0] rfl)
          · refine lv_iconst (v := 1) hx hb dX5_tape_32 (by decide) ?_
            refine lv_goto (tgt := 37) hx hb dX5_tape_33 (by decide) ?_
            refine lv_istore_n (lv' := [(2, .int 1), (0, .ref (zad G 12 0)), (1, .int x), (3, .int (nI j))]) hx hb dX5_tape_37 rfl hl (by decide) rfl (fun ls hl => ?_)
            refine lv_iinc (k := 3) (v := nI (j + 1)) (lv' := [(3, .int (nI (j + 1))), (2, .int 1), (0, .ref (zad G 12 0)), (1, .int x)]) hx hb dX5_tape_38 hl rfl (nI_inc _) (by decide) rfl (fun ls hl => ?_)
            refine lv_goto (tgt := 10) hx hb dX5_tape_41 (by decide) ?_
            exact ih (j + 1) true (by omega) (by rw [← hD, mtpL]; congr 1; simp [h19, h29]) _ _ _ hW (lv_sub hl [2, 3, 1, 0] rfl)
  exact lp n 0 (decide (inP x 0 31)) (by omega) rfl _ _ _ hW (lv_sub hl [2, 3, 1, 0] rfl)

set_option maxHeartbeats 4000000 in
set_option maxRecDepth 100000 in
theorem c_tap_b (l : Launch) (G : GG) (C : CS) (M : MS) (h12 : zn G ≤ 12) (x : Int32) (hb0 : x < 0 ∨ 32 ≤ x ∨ hmL C x (zn G) 0 = true) : Ct l G yX4_tape cX4_tape 2 (some .int) 3 54 [.ref (zad G 0 0), .int x] C M (some (.int (-1))) C M := by
  refine Ct_i (by decide) (Nat.le_of_ble_eq_true rfl) (fun {p e s m args below meth c A Q ls} hC hW hl hE => ?_)
  have hx := hC.1
  have hb := hC.2.1
  have hl : lv_has ls 2 [(0, .ref (zad G 0 0)), (1, .int x)] := hl
  refine lv_iload_n hx hb dX4_tape_0 rfl (lv_at hl 1 rfl) ?_
  refine lv_if_lt (tgt := 18) hx hb dX4_tape_1 (by decide) (fun h1 => ?_) (fun h1 => ?_)
  · refine lv_iconst (v := (-1)) hx hb dX4_tape_18 (by decide) ?_
    have qr : ((-1) : Int32) = -1 := by simp [bI, h1, cF_sF, cN_sN, cB_sB, cM_sM, cN_sF, cB_sF, cM_sF, cF_sN, cB_sN, cM_sN, cF_sB, cN_sB, cM_sB, cF_sM, cN_sM, cB_sM, mF_smF, mA_smF, mF_smA, mA_smA]
    exact hE hW qr dX4_tape_19
  · refine lv_iload_n hx hb dX4_tape_4 rfl (lv_at hl 1 rfl) ?_
    refine lv_bipush (v := 32) hx hb dX4_tape_5 (by decide) ?_
    refine lv_icmp_ge (tgt := 18) hx hb dX4_tape_7 (by decide) (fun h7 => ?_) (fun h7 => ?_)
    · refine lv_iconst (v := (-1)) hx hb dX4_tape_18 (by decide) ?_
      have qr : ((-1) : Int32) = -1 := by simp [bI, h1, h7, cF_sF, cN_sN, cB_sB, cM_sM, cN_sF, cB_sF, cM_sF, cF_sN, cB_sN, cM_sN, cF_sB, cN_sB, cM_sB, cF_sM, cN_sM, cB_sM, mF_smF, mA_smF, mF_smA, mA_smA]
      exact hE hW qr dX4_tape_19
    · refine lv_aload_n hx hb dX4_tape_10 rfl (lv_at hl 0 rfl) ?_
      refine lv_iload_n hx hb dX4_tape_11 rfl (lv_at hl 1 rfl) ?_
      refine z_callV (As := [.int x]) (rest := []) (st1 := [.int (bI (hmL C x (zn G) 0 = true))]) hC hW LL_0 rfl rfl rfl (c_X4_isHome l G C M h12 x) mw_X4_isHome mv_X4_isHome mM_X4_44 ⟨Nat.le_of_ble_eq_true rfl, Nat.le_of_ble_eq_true rfl⟩ rfl rfl hl.1 (lv_room (Nat.le_of_ble_eq_true rfl)) dX4_tape_12 rfl (fun H locs hW => ?_) ⟨Nat.zero_le _, Nat.zero_le _⟩
      refine zb_eq (tgt := 20) hx hb (hmL C x (zn G) 0 = true) rfl dX4_tape_15 (by decide) (fun h15 => ?_) (fun h15 => ?_)
      · exact absurd hb0 (fun q => q.elim h1 (fun q => q.elim h7 h15))
      · refine lv_iconst (v := (-1)) hx hb dX4_tape_18 (by decide) ?_
        have qr : ((-1) : Int32) = -1 := by simp [bI, h1, h7, h15, cF_sF, cN_sN, cB_sB, cM_sM, cN_sF, cB_sF, cM_sF, cF_sN, cB_sN, cM_sN, cF_sB, cN_sB, cM_sB, cF_sM, cN_sM, cB_sM, mF_smF, mA_smF, mF_smA, mA_smA]
        exact hE hW qr dX4_tape_19

set_option maxHeartbeats 4000000 in
set_option maxRecDepth 100000 in
theorem c_tap_12 (l : Launch) (G : GG) (C : CS) (M : MS) (h12 : zn G ≤ 12) (x : Int32) (hb0 : ¬ (x < 0 ∨ 32 ≤ x ∨ hmL C x (zn G) 0 = true)) (hn : 12 ≤ zn G) : Ct l G yX4_tape cX4_tape 2 (some .int) 3 54 [.ref (zad G 0 0), .int x] C M (some (.int (-6))) C M := by
  refine Ct_i (by decide) (Nat.le_of_ble_eq_true rfl) (fun {p e s m args below meth c A Q ls} hC hW hl hE => ?_)
  have hx := hC.1
  have hb := hC.2.1
  have hl : lv_has ls 2 [(0, .ref (zad G 0 0)), (1, .int x)] := hl
  refine lv_iload_n hx hb dX4_tape_0 rfl (lv_at hl 1 rfl) ?_
  refine lv_if_lt (tgt := 18) hx hb dX4_tape_1 (by decide) (fun h1 => ?_) (fun h1 => ?_)
  · exact absurd (Or.inl h1) hb0
  · refine lv_iload_n hx hb dX4_tape_4 rfl (lv_at hl 1 rfl) ?_
    refine lv_bipush (v := 32) hx hb dX4_tape_5 (by decide) ?_
    refine lv_icmp_ge (tgt := 18) hx hb dX4_tape_7 (by decide) (fun h7 => ?_) (fun h7 => ?_)
    · exact absurd (Or.inr (Or.inl h7)) hb0
    · refine lv_aload_n hx hb dX4_tape_10 rfl (lv_at hl 0 rfl) ?_
      refine lv_iload_n hx hb dX4_tape_11 rfl (lv_at hl 1 rfl) ?_
      refine z_callV (As := [.int x]) (rest := []) (st1 := [.int (bI (hmL C x (zn G) 0 = true))]) hC hW LL_0 rfl rfl rfl (c_X4_isHome l G C M h12 x) mw_X4_isHome mv_X4_isHome mM_X4_44 ⟨Nat.le_of_ble_eq_true rfl, Nat.le_of_ble_eq_true rfl⟩ rfl rfl hl.1 (lv_room (Nat.le_of_ble_eq_true rfl)) dX4_tape_12 rfl (fun H locs hW => ?_) ⟨Nat.zero_le _, Nat.zero_le _⟩
      refine zb_eq (tgt := 20) hx hb (hmL C x (zn G) 0 = true) rfl dX4_tape_15 (by decide) (fun h15 => ?_) (fun h15 => ?_)
      · refine lv_aload_n hx hb dX4_tape_20 rfl (lv_at hl 0 rfl) ?_
        refine g0 (k := 4) (v := .int (nI (zn G))) hC hW (by decide) mF_X4_48 rfl dX4_tape_21 ?_
        refine lv_bipush (v := 12) hx hb dX4_tape_24 (by decide) ?_
        refine zc_lt (i := zn G) (j := 12) (tgt := 32) hx hb rfl rfl (by omega) (by omega) dX4_tape_26 (by decide) (fun h26 => ?_) (fun h26 => ?_)
        · exact absurd h26 (by omega)
        · refine lv_bipush (v := (-6)) hx hb dX4_tape_29 (by decide) ?_
          have qr : ((-6) : Int32) = -6 := by simp [bI, h1, h7, h15, h26, cF_sF, cN_sN, cB_sB, cM_sM, cN_sF, cB_sF, cM_sF, cF_sN, cB_sN, cM_sN, cF_sB, cN_sB, cM_sB, cF_sM, cN_sM, cB_sM, mF_smF, mA_smF, mF_smA, mA_smA]
          exact hE hW qr dX4_tape_31
      · exact absurd (Or.inr (Or.inr h15)) hb0

