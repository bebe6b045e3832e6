/-! ===== the class: Tape ===== -/
/-- what every state keeps: ends within the rows, sizes are small, homes are cells -/
def Iv (C : CS) : Prop := (∀ b, cN C 5 b 3 ≤ cap b) ∧ (∀ b j, cB C 8 b j = nI (cB C 8 b j).toNatClampNeg ∧ (cB C 8 b j).toNatClampNeg ≤ 30) ∧ ∀ t, cN C 9 t 0 < 32
abbrev dmgP (C : CS) (t a : Nat) : Prop := a < 100 ∧ cB C 10 t a ≠ 0
abbrev tellsP (C : CS) (t a : Nat) (kd : Int32) : Prop := kAt C 6 t a = kd ∧ ¬ dmgP C t a
def zN (C : CS) (t a : Nat) : Nat := (kAt C 8 t a).toNatClampNeg
def datL (C : CS) (t : Nat) : Nat → Nat → Bool
  | 0, _ => true
  | k + 1, a => decide (tellsP C t a 2) && datL C t k (a + 1)
abbrev tfP (C : CS) (t h : Nat) : Prop := tellsP C t h 1 ∧ tellsP C t (h + zN C t h + 1) 3 ∧ datL C t (zN C t h) (h + 1) = true
def spL (t : Nat) : Nat → Nat → Nat → CS → Nat × CS
  | 0, _, n, C => (n, C)
  | k + 1, j, n, C => if cB C 10 t j ≠ 0 then spL t k (j + 1) n C else spL t k (j + 1) (n + 1) (sB C 10 t j 1)
def lhL (C : CS) (t : Nat) (nm : Int32) : Nat → Nat → Option Nat
  | 0, _ => none
  | k + 1, j => if cB C 11 t j ≠ 0 ∧ cB C 7 t j = nm then some j else lhL C t nm k (j + 1)
/-- the place of the HEAD that the catalogue has of a name -/
def lh (C : CS) (t : Nat) (nm : Int32) : Option Nat := lhL C t nm (cN C 5 t 3) 0
def oI (o : Option Nat) : Int32 := match o with
  | some j => nI j
  | none => -2
def unl (C : CS) (t : Nat) (o : Option Nat) : CS := match o with
  | some j => sB C 11 t j 0
  | none => C
def listC (C : CS) (t h : Nat) : CS := sB (unl C t (lh C t (kAt C 7 t h))) 11 t h 1
def uaL (t : Nat) : Nat → Nat → Nat → CS → Nat × CS
  | 0, _, n, C => (n, C)
  | k + 1, j, n, C => if cB C 11 t j = 0 then uaL t k (j + 1) n C else uaL t k (j + 1) (n + 1) (sB C 11 t j 0)
def lcL (C : CS) (t : Nat) : Nat → Nat → Nat → Nat
  | 0, _, n => n
  | k + 1, j, n => if cB C 11 t j = 0 then lcL C t k (j + 1) n else lcL C t k (j + 1) (n + 1)
def latL (t : Nat) : Nat → Nat → CS → CS
  | 0, _, C => C
  | k + 1, j, C => latL t k (j + 1) (if tfP C t j then listC C t j else C)
def latC (C : CS) (t : Nat) : CS := latL t (cN C 5 t 3) 0 (uaL t 100 0 0 C).2
theorem lhL_lt {C : CS} {t : Nat} {nm : Int32} : ∀ {k j i : Nat}, lhL C t nm k j = some i → j ≤ i ∧ i < j + k := by
  intro k
  induction k with
  | zero => intro j i h; cases h
  | succ k ih =>
    intro j i h
    unfold lhL at h
    split at h
    · cases h; omega
    · have := ih h; omega
theorem lh_lt {C : CS} {t i : Nat} {nm : Int32} (h : lh C t nm = some i) : i < cN C 5 t 3 := by
  have := lhL_lt h; omega
theorem kAt_sz {C : CS} (hI : Iv C) (t a : Nat) : kAt C 8 t a = nI (zN C t a) ∧ zN C t a ≤ 30 := by
  unfold zN kAt
  split
  · exact hI.2.1 t a
  · exact ⟨rfl, by decide⟩
theorem Iv_B {C : CS} {f b j : Nat} {v : Int32} (hI : Iv C) (hf : f ≠ 8) : Iv (sB C f b j v) := by
  refine ⟨hI.1, fun b' j' => ?_, hI.2.2⟩
  rw [cB_sB, if_neg (by omega)]
  exact hI.2.1 b' j'
theorem Iv_F {C : CS} {f b j : Nat} {v : Int32} (hI : Iv C) : Iv (sF C f b j v) := hI
theorem Iv_M {C : CS} {d : Nat} {v : Option Nat} (hI : Iv C) : Iv (sM C d v) := hI
theorem Iv_unl {C : CS} {t : Nat} {o : Option Nat} (hI : Iv C) : Iv (unl C t o) := by
  unfold unl
  split
  · exact Iv_B hI (by decide)
  · exact hI
theorem Iv_listC {C : CS} {t h : Nat} (hI : Iv C) : Iv (listC C t h) := Iv_B (Iv_unl hI) (by decide)
theorem cN_unl {C : CS} {t : Nat} {o : Option Nat} : cN (unl C t o) = cN C := by cases o <;> rfl
theorem cN_listC {C : CS} {t h : Nat} : cN (listC C t h) = cN C := by unfold listC; rw [cN_sB, cN_unl]
theorem uaL_N {t : Nat} : ∀ (k j n : Nat) (C : CS), cN (uaL t k j n C).2 = cN C := by
  intro k
  induction k with
  | zero => intro j n C; rfl
  | succ k ih => intro j n C; unfold uaL; split; exact ih _ _ _; rw [ih]; rfl
theorem uaL_I {t : Nat} : ∀ (k j n : Nat) (C : CS), Iv C → Iv (uaL t k j n C).2 := by
  intro k
  induction k with
  | zero => intro j n C h; exact h
  | succ k ih => intro j n C h; unfold uaL; split; exact ih _ _ _ h; exact ih _ _ _ (Iv_B h (by decide))
theorem latL_N {t : Nat} : ∀ (k j : Nat) (C : CS), cN (latL t k j C) = cN C := by
  intro k
  induction k with
  | zero => intro j C; rfl
  | succ k ih => intro j C; unfold latL; rw [ih]; split; exact cN_listC; rfl
theorem latL_I {t : Nat} : ∀ (k j : Nat) (C : CS), Iv C → Iv (latL t k j C) := by
  intro k
  induction k with
  | zero => intro j C h; exact h
  | succ k ih => intro j C h; unfold latL; refine ih _ _ ?_; split; exact Iv_listC h; exact h
theorem spL_N {t : Nat} : ∀ (k j n : Nat) (C : CS), cN (spL t k j n C).2 = cN C := by
  intro k
  induction k with
  | zero => intro j n C; rfl
  | succ k ih => intro j n C; unfold spL; split; exact ih _ _ _; rw [ih]; rfl
theorem spL_I {t : Nat} : ∀ (k j n : Nat) (C : CS), Iv C → Iv (spL t k j n C).2 := by
  intro k
  induction k with
  | zero => intro j n C h; exact h
  | succ k ih => intro j n C h; unfold spL; split; exact ih _ _ _ h; exact ih _ _ _ (Iv_B h (by decide))

set_option maxHeartbeats 4000000 in
set_option maxRecDepth 100000 in
theorem c_X3_isDamaged (l : Launch) (G : GG) (C : CS) (M : MS) {t : Nat} (ht : t < zn G) {a : Nat} (ha : a < 2 ^ 31) : Ct l G yX3_isDamaged cX3_isDamaged 2 (some .boolean) 0 0 [.ref (zad G 9 t), .int (nI a)] C M (some (.int (bI (dmgP C t a)))) C M := by
  refine Ct_z (by decide) (Nat.le_of_ble_eq_true rfl) (bI_01 _) (fun {p e s m args below meth c A Q ls} hC hW hl hE => ?_)
  have hx := hC.1
  have hb := hC.2.1
  have hl : lv_has ls 2 [(0, .ref (zad G 9 t)), (1, .int (nI a))] := hl
  refine lv_iload_n hx hb dX3_isDamaged_0 rfl (lv_at hl 1 rfl) ?_
  refine zf_lt (i := a) (tgt := 23) hx hb rfl (by omega) dX3_isDamaged_1 (by decide) ?_
  refine lv_iload_n hx hb dX3_isDamaged_4 rfl (lv_at hl 1 rfl) ?_
  refine lv_bipush (v := 100) hx hb dX3_isDamaged_5 (by decide) ?_
  refine zc_ge (i := a) (j := 100) (tgt := 23) hx hb rfl rfl (by omega) (by omega) dX3_isDamaged_7 (by decide) (fun h7 => ?_) (fun h7 => ?_)
  · refine lv_iconst (v := 0) hx hb dX3_isDamaged_23 (by decide) ?_
    have qr : (0 : Int32) = bI (dmgP C t a) := by exact bI_f (fun q => by have := q.1; omega)
    exact hE hW qr dX3_isDamaged_24
  · refine lv_aload_n hx hb dX3_isDamaged_10 rfl (lv_at hl 0 rfl) ?_
    refine g9 (k := 2) (v := .ref (zad G 10 t)) hC hW ht (by decide) mF_X3_20 rfl dX3_isDamaged_11 ?_
    refine lv_iload_n hx hb dX3_isDamaged_14 rfl (lv_at hl 1 rfl) ?_
    refine a10 (j := a) hC hW ht (rfl) (by omega) dX3_isDamaged_15 ?_
    refine lv_if_eq (tgt := 23) hx hb dX3_isDamaged_16 (by decide) (fun h16 => ?_) (fun h16 => ?_)
    · refine lv_iconst (v := 0) hx hb dX3_isDamaged_23 (by decide) ?_
      have qr : (0 : Int32) = bI (dmgP C t a) := by simp [bI, h7, h16]
      exact hE hW qr dX3_isDamaged_24
    · refine lv_iconst (v := 1) hx hb dX3_isDamaged_19 (by decide) ?_
      refine lv_goto (tgt := 24) hx hb dX3_isDamaged_20 (by decide) ?_
      have qr : (1 : Int32) = bI (dmgP C t a) := by simp [bI, h7, h16]
      exact hE hW qr dX3_isDamaged_24

set_option maxHeartbeats 4000000 in
set_option maxRecDepth 100000 in
theorem c_X3_tells (l : Launch) (G : GG) (C : CS) (M : MS) {t : Nat} (ht : t < zn G) {a : Nat} (ha : a < 2 ^ 31) (hI : Iv C) (kd : Int32) : Ct l G yX3_tells cX3_tells 3 (some .boolean) 2 42 [.ref (zad G 9 t), .int (nI a), .int kd] C M (some (.int (bI (tellsP C t a kd)))) C M := by
  refine Ct_z (by decide) (Nat.le_of_ble_eq_true rfl) (bI_01 _) (fun {p e s m args below meth c A Q ls} hC hW hl hE => ?_)
  have hx := hC.1
  have hb := hC.2.1
  have hl : lv_has ls 3 [(0, .ref (zad G 9 t)), (1, .int (nI a)), (2, .int kd)] := hl
  refine lv_aload_n hx hb dX3_tells_0 rfl (lv_at hl 0 rfl) ?_
  refine g9 (k := 1) (v := .ref (zad G 5 t)) hC hW ht (by decide) mF_X3_14 rfl dX3_tells_1 ?_
  refine lv_iload_n hx hb dX3_tells_4 rfl (lv_at hl 1 rfl) ?_
  refine z_callV (As := [.int (nI a)]) (rest := []) (st1 := [.int (kAt C 6 t a)]) hC hW (LL_5 (Or.inl ht)) rfl rfl rfl (c_X0_kindAt l G C M (Or.inl ht) (hI.1 t) ha) mw_X0_kindAt mv_X0_kindAt mM_X3_65 ⟨Nat.le_of_ble_eq_true rfl, Nat.le_of_ble_eq_true rfl⟩ rfl rfl hl.1 (lv_room (Nat.le_of_ble_eq_true rfl)) dX3_tells_5 rfl (fun H locs hW => ?_) ⟨Nat.zero_le _, Nat.zero_le _⟩
  refine lv_iload_n hx hb dX3_tells_8 rfl (lv_at hl 2 rfl) ?_
  refine lv_icmp_ne (tgt := 24) hx hb dX3_tells_9 (by decide) (fun h9 => ?_) (fun h9 => ?_)
  · refine lv_iconst (v := 0) hx hb dX3_tells_24 (by decide) ?_
    have qr : (0 : Int32) = bI (tellsP C t a kd) := by simp [bI, h9, cF_sF, cN_sN, cB_sB, cM_sM, cN_sF, cB_sF, cM_sF, cF_sN, cB_sN, cM_sN, cF_sB, cN_sB, cM_sB, cF_sM, cN_sM, cB_sM, mF_smF, mA_smF, mF_smA, mA_smA]
    exact hE hW qr dX3_tells_25
  · refine lv_aload_n hx hb dX3_tells_12 rfl (lv_at hl 0 rfl) ?_
    refine lv_iload_n hx hb dX3_tells_13 rfl (lv_at hl 1 rfl) ?_
    refine z_callV (As := [.int (nI a)]) (rest := []) (st1 := [.int (bI (dmgP C t a))]) hC hW (LL_9 ht) rfl rfl rfl (c_X3_isDamaged l G C M ht ha) mw_X3_isDamaged mv_X3_isDamaged mM_X3_68 ⟨Nat.le_of_ble_eq_true rfl, Nat.le_of_ble_eq_true rfl⟩ rfl rfl hl.1 (lv_room (Nat.le_of_ble_eq_true rfl)) dX3_tells_14 rfl (fun H locs hW => ?_) ⟨Nat.zero_le _, Nat.zero_le _⟩
    refine zb_ne (tgt := 24) hx hb (dmgP C t a) rfl dX3_tells_17 (by decide) (fun h17 => ?_) (fun h17 => ?_)
    · refine lv_iconst (v := 0) hx hb dX3_tells_24 (by decide) ?_
      have qr : (0 : Int32) = bI (tellsP C t a kd) := by simp [bI, h9, h17, cF_sF, cN_sN, cB_sB, cM_sM, cN_sF, cB_sF, cM_sF, cF_sN, cB_sN, cM_sN, cF_sB, cN_sB, cM_sB, cF_sM, cN_sM, cB_sM, mF_smF, mA_smF, mF_smA, mA_smA]
      exact hE hW qr dX3_tells_25
    · refine lv_iconst (v := 1) hx hb dX3_tells_20 (by decide) ?_
      refine lv_goto (tgt := 25) hx hb dX3_tells_21 (by decide) ?_
      have qr : (1 : Int32) = bI (tellsP C t a kd) := by simp [bI, h9, h17, cF_sF, cN_sN, cB_sB, cM_sM, cN_sF, cB_sF, cM_sF, cF_sN, cB_sN, cM_sN, cF_sB, cN_sB, cM_sB, cF_sM, cN_sM, cB_sM, mF_smF, mA_smF, mF_smA, mA_smA]
      exact hE hW qr dX3_tells_25

set_option maxHeartbeats 4000000 in
set_option maxRecDepth 100000 in
theorem c_X3_tellsFile (l : Launch) (G : GG) (C : CS) (M : MS) {t : Nat} (ht : t < zn G) {h : Nat} (ha : h < 100) (hI : Iv C) : Ct l G yX3_tellsFile cX3_tellsFile 4 (some .boolean) 3 64 [.ref (zad G 9 t), .int (nI h)] C M (some (.int (bI (tfP C t h)))) C M := by
  refine Ct_z (by decide) (Nat.le_of_ble_eq_true rfl) (bI_01 _) (fun {p e s m args below meth c A Q ls} hC hW hl hE => ?_)
  have hx := hC.1
  have hb := hC.2.1
  have hl : lv_has ls 4 [(0, .ref (zad G 9 t)), (1, .int (nI h))] := hl
  have hz := kAt_sz hI t h
  refine lv_iload_n hx hb dX3_tellsFile_0 rfl (lv_at hl 1 rfl) ?_
  refine lv_aload_n hx hb dX3_tellsFile_1 rfl (lv_at hl 0 rfl) ?_
  refine g9 (k := 1) (v := .ref (zad G 5 t)) hC hW ht (by decide) mF_X3_14 rfl dX3_tellsFile_2 ?_
  refine lv_iload_n hx hb dX3_tellsFile_5 rfl (lv_at hl 1 rfl) ?_
  refine z_callV (As := [.int (nI h)]) (rest := [.int (nI h)]) (st1 := [.int (kAt C 8 t h), .int (nI h)]) hC hW (LL_5 (Or.inl ht)) rfl rfl rfl (c_X0_sizeAt l G C M (Or.inl ht) (hI.1 t) (a := h) (by omega)) mw_X0_sizeAt mv_X0_sizeAt mM_X3_58 ⟨Nat.le_of_ble_eq_true rfl, Nat.le_of_ble_eq_true rfl⟩ rfl rfl hl.1 (lv_room (Nat.le_of_ble_eq_true rfl)) dX3_tellsFile_6 rfl (fun H locs hW => ?_) ⟨Nat.zero_le _, Nat.zero_le _⟩
  refine z_top (y := nI (zN C t h)) hz.1 ?_
  refine zi_add (i := h) (j := zN C t h) hx hb rfl rfl dX3_tellsFile_9 ?_
  refine lv_iconst (v := 1) hx hb dX3_tellsFile_10 (by decide) ?_
  refine zi_add (i := h + (zN C t h)) (j := 1) hx hb rfl rfl dX3_tellsFile_11 ?_
  refine lv_istore_n (lv' := [(2, .int (nI (h + (zN C t h) + 1))), (0, .ref (zad G 9 t)), (1, .int (nI h))]) hx hb dX3_tellsFile_12 rfl hl (by decide) rfl (fun ls hl => ?_)
  refine lv_aload_n hx hb dX3_tellsFile_13 rfl (lv_at hl 1 rfl) ?_
  refine lv_iload_n hx hb dX3_tellsFile_14 rfl (lv_at hl 2 rfl) ?_
  refine lv_iconst (v := 1) hx hb dX3_tellsFile_15 (by decide) ?_
  refine z_callV (As := [.int (nI h), .int 1]) (rest := []) (st1 := [.int (bI (tellsP C t h 1))]) hC hW (LL_9 ht) rfl rfl rfl (c_X3_tells l G C M ht (a := h) (by omega) hI 1) mw_X3_tells mv_X3_tells mM_X3_61 ⟨Nat.le_of_ble_eq_true rfl, Nat.le_of_ble_eq_true rfl⟩ rfl rfl hl.1 (lv_room (Nat.le_of_ble_eq_true rfl)) dX3_tellsFile_16 rfl (fun H locs hW => ?_) ⟨Nat.zero_le _, Nat.zero_le _⟩
  refine zb_eq (tgt := 31) hx hb (tellsP C t h 1) rfl dX3_tellsFile_19 (by decide) (fun h19 => ?_) (fun h19 => ?_)
  · refine lv_iconst (v := 0) hx hb dX3_tellsFile_31 (by decide) ?_
    have qr : (0 : Int32) = bI (tfP C t h) := by simp [bI, h19]
    exact hE hW qr dX3_tellsFile_32
  · refine lv_aload_n hx hb dX3_tellsFile_22 rfl (lv_at hl 1 rfl) ?_
    refine lv_iload_n hx hb dX3_tellsFile_23 rfl (lv_at hl 0 rfl) ?_
    refine lv_iconst (v := 3) hx hb dX3_tellsFile_24 (by decide) ?_
    refine z_callV (As := [.int (nI (h + (zN C t h) + 1)), .int 3]) (rest := []) (st1 := [.int (bI (tellsP C t (h + (zN C t h) + 1) 3))]) hC hW (LL_9 ht) rfl rfl rfl (c_X3_tells l G C M ht (a := h + (zN C t h) + 1) (by omega) hI 3) mw_X3_tells mv_X3_tells mM_X3_61 ⟨Nat.le_of_ble_eq_true rfl, Nat.le_of_ble_eq_true rfl⟩ rfl rfl hl.1 (lv_room (Nat.le_of_ble_eq_true rfl)) dX3_tellsFile_25 rfl (fun H locs hW => ?_) ⟨Nat.zero_le _, Nat.zero_le _⟩
    refine zb_ne (tgt := 33) hx hb (tellsP C t (h + (zN C t h) + 1) 3) rfl dX3_tellsFile_28 (by decide) (fun h28 => ?_) (fun h28 => ?_)
    · refine lv_iload_n hx hb dX3_tellsFile_33 rfl (lv_at hl 2 rfl) ?_
      refine lv_iconst (v := 1) hx hb dX3_tellsFile_34 (by decide) ?_
      refine zi_add (i := h) (j := 1) hx hb rfl rfl dX3_tellsFile_35 ?_
      refine lv_istore_n (lv' := [(3, .int (nI (h + 1))), (2, .int (nI (h + (zN C t h) + 1))), (0, .ref (zad G 9 t)), (1, .int (nI h))]) hx hb dX3_tellsFile_36 rfl hl (by decide) rfl (fun ls hl => ?_)
      have lp : ∀ (k : Nat) (a : Nat), a + k = h + zN C t h + 1 → datL C t k a = datL C t (zN C t h) (h + 1) → ∀ (H : Heap) (locs : List Loc) (ls : Array Slot), Wd G s A s.heap H locs C M → lv_has ls 4 [(0, .ref (zad G 9 t)), (1, .int (nI h)), (2, .int (nI (h + zN C t h + 1))), (3, .int (nI a))] → W p l e { frames := 3, cells := 0, slots := 0, locals := 64 } s m args below meth c H locs 0 0 Q (F0 m 37 ls []) := by
        intro k
        induction k with
        | zero =>
          intro a hk hD H locs ls hW hl
          refine lv_iload_n hx hb dX3_tellsFile_37 rfl (lv_at hl 3 rfl) ?_
          refine lv_iload_n hx hb dX3_tellsFile_38 rfl (lv_at hl 2 rfl) ?_
          refine zc_ge (i := a) (j := h + zN C t h + 1) (tgt := 59) hx hb rfl rfl (by omega) (by omega) dX3_tellsFile_39 (by decide) (fun h39 => ?_) (fun h39 => ?_)
          · refine lv_iconst (v := 1) hx hb dX3_tellsFile_59 (by decide) ?_
            have qr : (1 : Int32) = bI (tfP C t h) := by
              have hd2 : datL C t (zN C t h) (h + 1) = true := by rw [← hD]; rfl
              simp [bI, h19, h28, hd2]
            exact hE hW qr dX3_tellsFile_60
          · exact absurd h39 (by omega)
        | succ k ih =>
          intro a hk hD H locs ls hW hl
          refine lv_iload_n hx hb dX3_tellsFile_37 rfl (lv_at hl 3 rfl) ?_
          refine lv_iload_n hx hb dX3_tellsFile_38 rfl (lv_at hl 2 rfl) ?_
          refine zc_ge (i := a) (j := h + zN C t h + 1) (tgt := 59) hx hb rfl rfl (by omega) (by omega) dX3_tellsFile_39 (by decide) (fun h39 => ?_) (fun h39 => ?_)
          · exact absurd h39 (by omega)
          · refine lv_aload_n hx hb dX3_tellsFile_42 rfl (lv_at hl 0 rfl) ?_
            refine lv_iload_n hx hb dX3_tellsFile_43 rfl (lv_at hl 3 rfl) ?_
            refine lv_iconst (v := 2) hx hb dX3_tellsFile_44 (by decide) ?_
            refine z_callV (As := [.int (nI a), .int 2]) (rest := []) (st1 := [.int (bI (tellsP C t a 2))]) hC hW (LL_9 ht) rfl rfl rfl (c_X3_tells l G C M ht (a := a) (by omega) hI 2) mw_X3_tells mv_X3_tells mM_X3_61 ⟨Nat.le_of_ble_eq_true rfl, Nat.le_of_ble_eq_true rfl⟩ rfl rfl hl.1 (lv_room (Nat.le_of_ble_eq_true rfl)) dX3_tellsFile_45 rfl (fun H locs hW => ?_) ⟨Nat.zero_le _, Nat.zero_le _⟩
            refine zb_ne (tgt := 53) hx hb (tellsP C t a 2) rfl dX3_tellsFile_48 (by decide) (fun h48 => ?_) (fun h48 => ?_)
            · refine lv_iinc (k := 3) (v := nI (a + 1)) (lv' := [(3, .int (nI (a + 1))), (0, .ref (zad G 9 t)), (1, .int (nI h)), (2, .int (nI (h + zN C t h + 1)))]) hx hb dX3_tellsFile_53 hl rfl (nI_inc _) (by decide) rfl (fun ls hl => ?_)
              refine lv_goto (tgt := 37) hx hb dX3_tellsFile_56 (by decide) ?_
              exact ih (a + 1) (by omega) (by rw [← hD, datL]; simp [h48]) _ _ _ hW (lv_sub hl [1, 2, 3, 0] rfl)
            · refine lv_iconst (v := 0) hx hb dX3_tellsFile_51 (by decide) ?_
              have qr : (0 : Int32) = bI (tfP C t h) := by
                have hd2 : datL C t (zN C t h) (h + 1) = false := by rw [← hD, datL]; simp [h48]
                simp [bI, hd2]
              exact hE hW qr dX3_tellsFile_52
      exact lp (zN C t h) (h + 1) (by omega) rfl _ _ _ hW (lv_sub hl [2, 3, 1, 0] rfl)
    · refine lv_iconst (v := 0) hx hb dX3_tellsFile_31 (by decide) ?_
      have qr : (0 : Int32) = bI (tfP C t h) := by simp [bI, h19, h28]
      exact hE hW qr dX3_tellsFile_32

set_option maxHeartbeats 4000000 in
set_option maxRecDepth 100000 in
theorem c_X3_spoil (l : Launch) (G : GG) (C : CS) (M : MS) {t : Nat} (ht : t < zn G) {a n : Nat} (ha : a + n ≤ 100) : Ct l G yX3_spoil cX3_spoil 5 (some .int) 0 0 [.ref (zad G 9 t), .int (nI a), .int (nI n)] C M (some (.int (nI (spL t n a 0 C).1))) ((spL t n a 0 C).2) M := by
  refine Ct_i (by decide) (Nat.le_of_ble_eq_true rfl) (fun {p e s m args below meth c A Q ls} hC hW hl hE => ?_)
  have hx := hC.1
  have hb := hC.2.1
  have hl : lv_has ls 5 [(0, .ref (zad G 9 t)), (1, .int (nI a)), (2, .int (nI n))] := hl
  refine lv_iconst (v := 0) hx hb dX3_spoil_0 (by decide) ?_
  refine lv_istore_n (lv' := [(3, .int 0), (0, .ref (zad G 9 t)), (1, .int (nI a)), (2, .int (nI n))]) hx hb dX3_spoil_1 rfl hl (by decide) rfl (fun ls hl => ?_)
  refine lv_iload_n hx hb dX3_spoil_2 rfl (lv_at hl 2 rfl) ?_
  refine lv_istore (lv' := [(4, .int (nI a)), (3, .int 0), (0, .ref (zad G 9 t)), (1, .int (nI a)), (2, .int (nI n))]) hx hb dX3_spoil_3 hl (by decide) rfl (fun ls hl => ?_)
  have lp : ∀ (k : Nat) (j : Nat) (q : Nat) (C1 : CS), j + k = a + n → spL t k j q C1 = spL t n a 0 C → ∀ (H : Heap) (locs : List Loc) (ls : Array Slot), Wd G s A s.heap H locs C1 M → lv_has ls 5 [(0, .ref (zad G 9 t)), (1, .int (nI a)), (2, .int (nI n)), (3, .int (nI q)), (4, .int (nI j))] → W p l e { frames := 0, cells := 0, slots := 0, locals := 0 } s m args below meth c H locs 0 0 Q (F0 m 5 ls []) := by
    intro k
    induction k with
    | zero =>
      intro j q C1 hk hD H locs ls hW hl
      refine lv_iload hx hb dX3_spoil_5 (lv_at hl 4 rfl) ?_
      refine lv_iload_n hx hb dX3_spoil_7 rfl (lv_at hl 1 rfl) ?_
      refine lv_iload_n hx hb dX3_spoil_8 rfl (lv_at hl 2 rfl) ?_
      refine zi_add (i := a) (j := n) hx hb rfl rfl dX3_spoil_9 ?_
      refine zc_ge (i := j) (j := a + n) (tgt := 40) hx hb rfl rfl (by omega) (by omega) dX3_spoil_10 (by decide) (fun h10 => ?_) (fun h10 => ?_)
      · refine lv_iload_n hx hb dX3_spoil_40 rfl (lv_at hl 3 rfl) ?_
        have hD2 : (q, C1) = spL t n a 0 C := hD
        rw [← hD2]  at hE
        exact hE hW rfl dX3_spoil_41
      · exact absurd h10 (by omega)
    | succ k ih =>
      intro j q C1 hk hD H locs ls hW hl
      refine lv_iload hx hb dX3_spoil_5 (lv_at hl 4 rfl) ?_
      refine lv_iload_n hx hb dX3_spoil_7 rfl (lv_at hl 1 rfl) ?_
      refine lv_iload_n hx hb dX3_spoil_8 rfl (lv_at hl 2 rfl) ?_
      refine zi_add (i := a) (j := n) hx hb rfl rfl dX3_spoil_9 ?_
      refine zc_ge (i := j) (j := a + n) (tgt := 40) hx hb rfl rfl (by omega) (by omega) dX3_spoil_10 (by decide) (fun h10 => ?_) (fun h10 => ?_)
      · exact absurd h10 (by omega)
      · refine lv_aload_n hx hb dX3_spoil_13 rfl (lv_at hl 0 rfl) ?_
        refine g9 (k := 2) (v := .ref (zad G 10 t)) hC hW ht (by decide) mF_X3_20 rfl dX3_spoil_14 ?_
        refine lv_iload hx hb dX3_spoil_17 (lv_at hl 4 rfl) ?_
        refine a10 (j := j) hC hW ht (rfl) (by omega) dX3_spoil_19 ?_
        refine lv_if_ne (tgt := 34) hx hb dX3_spoil_20 (by decide) (fun h20 => ?_) (fun h20 => ?_)
        · refine lv_iinc (k := 4) (v := nI (j + 1)) (lv' := [(4, .int (nI (j + 1))), (0, .ref (zad G 9 t)), (1, .int (nI a)), (2, .int (nI n)), (3, .int (nI q))]) hx hb dX3_spoil_34 hl rfl (nI_inc _) (by decide) rfl (fun ls hl => ?_)
          refine lv_goto (tgt := 5) hx hb dX3_spoil_37 (by decide) ?_
          exact ih (j + 1) q C1 (by omega) (by rw [← hD, spL]; simp [h20]) _ _ _ hW (lv_sub hl [1, 2, 3, 4, 0] rfl)
        · refine lv_aload_n hx hb dX3_spoil_23 rfl (lv_at hl 0 rfl) ?_
          refine g9 (k := 2) (v := .ref (zad G 10 t)) hC hW ht (by decide) mF_X3_20 rfl dX3_spoil_24 ?_
          refine lv_iload hx hb dX3_spoil_27 (lv_at hl 4 rfl) ?_
          refine lv_iconst (v := 1) hx hb dX3_spoil_29 (by decide) ?_
          refine s1011 (f := 10) (j := j) (v := 1) hC hW (by decide) ht (rfl) (by omega) (by decide) dX3_spoil_30 (fun _ eS H locs hW => ?_)
          subst eS
          refine lv_iinc (k := 3) (v := nI (q + 1)) (lv' := [(3, .int (nI (q + 1))), (0, .ref (zad G 9 t)), (1, .int (nI a)), (2, .int (nI n)), (4, .int (nI j))]) hx hb dX3_spoil_31 hl rfl (nI_inc _) (by decide) rfl (fun ls hl => ?_)
          refine lv_iinc (k := 4) (v := nI (j + 1)) (lv' := [(4, .int (nI (j + 1))), (3, .int (nI (q + 1))), (0, .ref (zad G 9 t)), (1, .int (nI a)), (2, .int (nI n))]) hx hb dX3_spoil_34 hl rfl (nI_inc _) (by decide) rfl (fun ls hl => ?_)
          refine lv_goto (tgt := 5) hx hb dX3_spoil_37 (by decide) ?_
          exact ih (j + 1) (q + 1) (sB C1 10 t j 1) (by omega) (by rw [← hD, spL]; simp [h20]) _ _ _ hW (lv_sub hl [2, 3, 4, 1, 0] rfl)
  exact lp n a 0 C rfl rfl _ _ _ hW (lv_sub hl [2, 3, 4, 1, 0] rfl)

set_option maxHeartbeats 4000000 in
set_option maxRecDepth 100000 in
theorem c_X3_listedHead (l : Launch) (G : GG) (C : CS) (M : MS) {t : Nat} (ht : t < zn G) (hI : Iv C) (nm : Int32) : Ct l G yX3_listedHead cX3_listedHead 3 (some .int) 2 42 [.ref (zad G 9 t), .int nm] C M (some (.int (oI (lh C t nm)))) C M := by
  refine Ct_i (by decide) (Nat.le_of_ble_eq_true rfl) (fun {p e s m args below meth c A Q ls} hC hW hl hE => ?_)
  have hx := hC.1
  have hb := hC.2.1
  have hl : lv_has ls 3 [(0, .ref (zad G 9 t)), (1, .int nm)] := hl
  have hcp := cap_le t
  have he := hI.1 t
  refine lv_iconst (v := 0) hx hb dX3_listedHead_0 (by decide) ?_
  refine lv_istore_n (lv' := [(2, .int 0), (0, .ref (zad G 9 t)), (1, .int nm)]) hx hb dX3_listedHead_1 rfl hl (by decide) rfl (fun ls hl => ?_)
  have lp : ∀ (k : Nat) (j : Nat), j + k = cN C 5 t 3 → lhL C t nm k j = lh C t nm → ∀ (H : Heap) (locs : List Loc) (ls : Array Slot), Wd G s A s.heap H locs C M → lv_has ls 3 [(0, .ref (zad G 9 t)), (1, .int nm), (2, .int (nI j))] → W p l e { frames := 2, cells := 0, slots := 0, locals := 42 } s m args below meth c H locs 0 0 Q (F0 m 2 ls []) := by
    intro k
    induction k with
    | zero =>
      intro j hk hD H locs ls hW hl
      refine lv_iload_n hx hb dX3_listedHead_2 rfl (lv_at hl 2 rfl) ?_
      refine lv_aload_n hx hb dX3_listedHead_3 rfl (lv_at hl 0 rfl) ?_
      refine g9 (k := 1) (v := .ref (zad G 5 t)) hC hW ht (by decide) mF_X3_14 rfl dX3_listedHead_4 ?_
      refine g5 (k := 3) (v := .int (nI (cN C 5 t 3))) hC hW (Or.inl ht) (by decide) mF_X3_31 rfl dX3_listedHead_7 ?_
      refine zc_ge (i := j) (j := cN C 5 t 3) (tgt := 42) hx hb rfl rfl (by omega) (by omega) dX3_listedHead_10 (by decide) (fun h10 => ?_) (fun h10 => ?_)
      · refine lv_bipush (v := (-2)) hx hb dX3_listedHead_42 (by decide) ?_
        have qr : ((-2) : Int32) = oI (lh C t nm) := by rw [← hD]; rfl
        exact hE hW qr dX3_listedHead_44
      · exact absurd h10 (by omega)
    | succ k ih =>
      intro j hk hD H locs ls hW hl
      refine lv_iload_n hx hb dX3_listedHead_2 rfl (lv_at hl 2 rfl) ?_
      refine lv_aload_n hx hb dX3_listedHead_3 rfl (lv_at hl 0 rfl) ?_
      refine g9 (k := 1) (v := .ref (zad G 5 t)) hC hW ht (by decide) mF_X3_14 rfl dX3_listedHead_4 ?_
      refine g5 (k := 3) (v := .int (nI (cN C 5 t 3))) hC hW (Or.inl ht) (by decide) mF_X3_31 rfl dX3_listedHead_7 ?_
      refine zc_ge (i := j) (j := cN C 5 t 3) (tgt := 42) hx hb rfl rfl (by omega) (by omega) dX3_listedHead_10 (by decide) (fun h10 => ?_) (fun h10 => ?_)
      · exact absurd h10 (by omega)
      · refine lv_aload_n hx hb dX3_listedHead_13 rfl (lv_at hl 0 rfl) ?_
        refine g9 (k := 3) (v := .ref (zad G 11 t)) hC hW ht (by decide) mF_X3_24 rfl dX3_listedHead_14 ?_
        refine lv_iload_n hx hb dX3_listedHead_17 rfl (lv_at hl 2 rfl) ?_
        refine a11 (j := j) hC hW ht (rfl) (by omega) dX3_listedHead_18 ?_
        refine lv_if_eq (tgt := 36) hx hb dX3_listedHead_19 (by decide) (fun h19 => ?_) (fun h19 => ?_)
        · refine lv_iinc (k := 2) (v := nI (j + 1)) (lv' := [(2, .int (nI (j + 1))), (0, .ref (zad G 9 t)), (1, .int nm)]) hx hb dX3_listedHead_36 hl rfl (nI_inc _) (by decide) rfl (fun ls hl => ?_)
          refine lv_goto (tgt := 2) hx hb dX3_listedHead_39 (by decide) ?_
          exact ih (j + 1) (by omega) (by rw [← hD, lhL]; simp [h19]) _ _ _ hW (lv_sub hl [1, 2, 0] rfl)
        · refine lv_aload_n hx hb dX3_listedHead_22 rfl (lv_at hl 0 rfl) ?_
          refine g9 (k := 1) (v := .ref (zad G 5 t)) hC hW ht (by decide) mF_X3_14 rfl dX3_listedHead_23 ?_
          refine lv_iload_n hx hb dX3_listedHead_26 rfl (lv_at hl 2 rfl) ?_
          refine z_callV (As := [.int (nI j)]) (rest := []) (st1 := [.int (kAt C 7 t j)]) hC hW (LL_5 (Or.inl ht)) rfl rfl rfl (c_X0_valueAt l G C M (Or.inl ht) (hI.1 t) (a := j) (by omega)) mw_X0_valueAt mv_X0_valueAt mM_X3_34 ⟨Nat.le_of_ble_eq_true rfl, Nat.le_of_ble_eq_true rfl⟩ rfl rfl hl.1 (lv_room (Nat.le_of_ble_eq_true rfl)) dX3_listedHead_27 rfl (fun H locs hW => ?_) ⟨Nat.zero_le _, Nat.zero_le _⟩
          refine z_top (y := cB C 7 t j) (by unfold kAt; rw [if_pos h10]) ?_
          refine lv_iload_n hx hb dX3_listedHead_30 rfl (lv_at hl 1 rfl) ?_
          refine lv_icmp_ne (tgt := 36) hx hb dX3_listedHead_31 (by decide) (fun h31 => ?_) (fun h31 => ?_)
          · refine lv_iinc (k := 2) (v := nI (j + 1)) (lv' := [(2, .int (nI (j + 1))), (0, .ref (zad G 9 t)), (1, .int nm)]) hx hb dX3_listedHead_36 hl rfl (nI_inc _) (by decide) rfl (fun ls hl => ?_)
            refine lv_goto (tgt := 2) hx hb dX3_listedHead_39 (by decide) ?_
            exact ih (j + 1) (by omega) (by rw [← hD, lhL]; simp [h19, h31]) _ _ _ hW (lv_sub hl [1, 2, 0] rfl)
          · refine lv_iload_n hx hb dX3_listedHead_34 rfl (lv_at hl 2 rfl) ?_
            have qr : (nI j : Int32) = oI (lh C t nm) := by rw [← hD, lhL]; simp [oI, h19, h31]
            exact hE hW qr dX3_listedHead_35
  exact lp (cN C 5 t 3) 0 (by omega) rfl _ _ _ hW (lv_sub hl [1, 2, 0] rfl)

set_option maxHeartbeats 4000000 in
set_option maxRecDepth 100000 in
theorem c_X3_unlist_s (l : Launch) (G : GG) (C : CS) (M : MS) {t : Nat} (ht : t < zn G) {j : Nat} (hj : j < 100) : Ct l G yX3_unlist cX3_unlist 2 none 0 0 [.ref (zad G 9 t), .int (nI j)] C M none (sB C 11 t j 0) M := by
  refine Ct_v (by decide) (Nat.le_of_ble_eq_true rfl) (fun {p e s m args below meth c A Q ls} hC hW hl hE => ?_)
  have hx := hC.1
  have hb := hC.2.1
  have hl : lv_has ls 2 [(0, .ref (zad G 9 t)), (1, .int (nI j))] := hl
  refine lv_iload_n hx hb dX3_unlist_0 rfl (lv_at hl 1 rfl) ?_
  refine zf_lt (i := j) (tgt := 17) hx hb rfl (by omega) dX3_unlist_1 (by decide) ?_
  refine lv_iload_n hx hb dX3_unlist_4 rfl (lv_at hl 1 rfl) ?_
  refine lv_bipush (v := 100) hx hb dX3_unlist_5 (by decide) ?_
  refine zc_ge (i := j) (j := 100) (tgt := 17) hx hb rfl rfl (by omega) (by omega) dX3_unlist_7 (by decide) (fun h7 => ?_) (fun h7 => ?_)
  · exact absurd h7 (by omega)
  · refine lv_aload_n hx hb dX3_unlist_10 rfl (lv_at hl 0 rfl) ?_
    refine g9 (k := 3) (v := .ref (zad G 11 t)) hC hW ht (by decide) mF_X3_24 rfl dX3_unlist_11 ?_
    refine lv_iload_n hx hb dX3_unlist_14 rfl (lv_at hl 1 rfl) ?_
    refine lv_iconst (v := 0) hx hb dX3_unlist_15 (by decide) ?_
    refine s1011 (f := 11) (j := j) (v := 0) hC hW (by decide) ht (rfl) (by omega) (by decide) dX3_unlist_16 (fun _ eS H locs hW => ?_)
    subst eS
    exact hE hW dX3_unlist_17

set_option maxHeartbeats 4000000 in
set_option maxRecDepth 100000 in
theorem c_X3_unlist_n (l : Launch) (G : GG) (C : CS) (M : MS) {t : Nat} (ht : t < zn G) : Ct l G yX3_unlist cX3_unlist 2 none 0 0 [.ref (zad G 9 t), .int (-2)] C M none C M := by
  refine Ct_v (by decide) (Nat.le_of_ble_eq_true rfl) (fun {p e s m args below meth c A Q ls} hC hW hl hE => ?_)
  have hx := hC.1
  have hb := hC.2.1
  have hl : lv_has ls 2 [(0, .ref (zad G 9 t)), (1, .int (-2))] := hl
  refine lv_iload_n hx hb dX3_unlist_0 rfl (lv_at hl 1 rfl) ?_
  refine lv_if_lt (tgt := 17) hx hb dX3_unlist_1 (by decide) (fun _ => ?_) (fun q => absurd (by decide) q)
  exact hE hW dX3_unlist_17

theorem c_X3_unlist (l : Launch) (G : GG) (C : CS) (M : MS) {t : Nat} (ht : t < zn G) (o : Option Nat) (ho : ∀ j, o = some j → j < 100) : Ct l G yX3_unlist cX3_unlist 2 none 0 0 [.ref (zad G 9 t), .int (oI o)] C M none (unl C t o) M := by
  cases o with
  | none => exact c_X3_unlist_n l G C M ht
  | some j => exact c_X3_unlist_s l G C M ht (ho j rfl)

set_option maxHeartbeats 4000000 in
set_option maxRecDepth 100000 in
theorem c_X3_list (l : Launch) (G : GG) (C : CS) (M : MS) {t : Nat} (ht : t < zn G) (hI : Iv C) {h : Nat} (hh : h < 100) : Ct l G yX3_list cX3_list 2 none 3 64 [.ref (zad G 9 t), .int (nI h)] C M none (listC C t h) M := by
  refine Ct_v (by decide) (Nat.le_of_ble_eq_true rfl) (fun {p e s m args below meth c A Q ls} hC hW hl hE => ?_)
  have hx := hC.1
  have hb := hC.2.1
  have hl : lv_has ls 2 [(0, .ref (zad G 9 t)), (1, .int (nI h))] := hl
  refine lv_aload_n hx hb dX3_list_0 rfl (lv_at hl 0 rfl) ?_
  refine lv_aload_n hx hb dX3_list_1 rfl (lv_at hl 0 rfl) ?_
  refine lv_aload_n hx hb dX3_list_2 rfl (lv_at hl 0 rfl) ?_
  refine g9 (k := 1) (v := .ref (zad G 5 t)) hC hW ht (by decide) mF_X3_14 rfl dX3_list_3 ?_
  refine lv_iload_n hx hb dX3_list_6 rfl (lv_at hl 1 rfl) ?_
  refine z_callV (As := [.int (nI h)]) (rest := [.ref (zad G 9 t), .ref (zad G 9 t)]) (st1 := [.int (kAt C 7 t h), .ref (zad G 9 t), .ref (zad G 9 t)]) hC hW (LL_5 (Or.inl ht)) rfl rfl rfl (c_X0_valueAt l G C M (Or.inl ht) (hI.1 t) (a := h) (by omega)) mw_X0_valueAt mv_X0_valueAt mM_X3_34 ⟨Nat.le_of_ble_eq_true rfl, Nat.le_of_ble_eq_true rfl⟩ rfl rfl hl.1 (lv_room (Nat.le_of_ble_eq_true rfl)) dX3_list_7 rfl (fun H locs hW => ?_) ⟨Nat.zero_le _, Nat.zero_le _⟩
  refine z_callV (As := [.int (kAt C 7 t h)]) (rest := [.ref (zad G 9 t)]) (st1 := [.int (oI (lh C t (kAt C 7 t h))), .ref (zad G 9 t)]) hC hW (LL_9 ht) rfl rfl rfl (c_X3_listedHead l G C M ht hI (kAt C 7 t h)) mw_X3_listedHead mv_X3_listedHead mM_X3_38 ⟨Nat.le_of_ble_eq_true rfl, Nat.le_of_ble_eq_true rfl⟩ rfl rfl hl.1 (lv_room (Nat.le_of_ble_eq_true rfl)) dX3_list_10 rfl (fun H locs hW => ?_) ⟨Nat.zero_le _, Nat.zero_le _⟩
  refine z_callV (As := [.int (oI (lh C t (kAt C 7 t h)))]) (rest := []) (st1 := []) hC hW (LL_9 ht) rfl rfl rfl (c_X3_unlist l G C M ht (lh C t (kAt C 7 t h)) (fun j hj => by have := lh_lt hj; have := hI.1 t; have := cap_le t; omega)) mw_X3_unlist mv_X3_unlist mM_X3_41 ⟨Nat.le_of_ble_eq_true rfl, Nat.le_of_ble_eq_true rfl⟩ rfl rfl hl.1 (lv_room (Nat.le_of_ble_eq_true rfl)) dX3_list_13 rfl (fun H locs hW => ?_) ⟨Nat.zero_le _, Nat.zero_le _⟩
  obtain ⟨C1, eC1⟩ : ∃ z, z = unl C t (lh C t (kAt C 7 t h)) := ⟨_, rfl⟩
  rw [← eC1] at hW
  refine lv_aload_n hx hb dX3_list_16 rfl (lv_at hl 0 rfl) ?_
  refine g9 (k := 3) (v := .ref (zad G 11 t)) hC hW ht (by decide) mF_X3_24 rfl dX3_list_17 ?_
  refine lv_iload_n hx hb dX3_list_20 rfl (lv_at hl 1 rfl) ?_
  refine lv_iconst (v := 1) hx hb dX3_list_21 (by decide) ?_
  refine s1011 (f := 11) (j := h) (v := 1) hC hW (by decide) ht (rfl) (by omega) (by decide) dX3_list_22 (fun _ eS H locs hW => ?_)
  subst eS
  have qC : sB C1 11 t h 1 = listC C t h := by rw [eC1]; rfl
  rw [qC] at hW
  exact hE hW dX3_list_23

set_option maxHeartbeats 4000000 in
set_option maxRecDepth 100000 in
theorem c_X3_unlistAll (l : Launch) (G : GG) (C : CS) (M : MS) {t : Nat} (ht : t < zn G) : Ct l G yX3_unlistAll cX3_unlistAll 3 (some .int) 0 0 [.ref (zad G 9 t)] C M (some (.int (nI (uaL t 100 0 0 C).1))) ((uaL t 100 0 0 C).2) M := by
  refine Ct_i (by decide) (Nat.le_of_ble_eq_true rfl) (fun {p e s m args below meth c A Q ls} hC hW hl hE => ?_)
  have hx := hC.1
  have hb := hC.2.1
  have hl : lv_has ls 3 [(0, .ref (zad G 9 t))] := hl
  refine lv_iconst (v := 0) hx hb dX3_unlistAll_0 (by decide) ?_
  refine lv_istore_n (lv' := [(1, .int 0), (0, .ref (zad G 9 t))]) hx hb dX3_unlistAll_1 rfl hl (by decide) rfl (fun ls hl => ?_)
  refine lv_iconst (v := 0) hx hb dX3_unlistAll_2 (by decide) ?_
  refine lv_istore_n (lv' := [(2, .int 0), (1, .int 0), (0, .ref (zad G 9 t))]) hx hb dX3_unlistAll_3 rfl hl (by decide) rfl (fun ls hl => ?_)
  have lp : ∀ (k : Nat) (j : Nat) (q : Nat) (C1 : CS), j + k = 100 → uaL t k j q C1 = uaL t 100 0 0 C → ∀ (H : Heap) (locs : List Loc) (ls : Array Slot), Wd G s A s.heap H locs C1 M → lv_has ls 3 [(0, .ref (zad G 9 t)), (1, .int (nI q)), (2, .int (nI j))] → W p l e { frames := 0, cells := 0, slots := 0, locals := 0 } s m args below meth c H locs 0 0 Q (F0 m 4 ls []) := by
    intro k
    induction k with
    | zero =>
      intro j q C1 hk hD H locs ls hW hl
      refine lv_iload_n hx hb dX3_unlistAll_4 rfl (lv_at hl 2 rfl) ?_
      refine lv_bipush (v := 100) hx hb dX3_unlistAll_5 (by decide) ?_
      refine zc_ge (i := j) (j := 100) (tgt := 35) hx hb rfl rfl (by omega) (by omega) dX3_unlistAll_7 (by decide) (fun h7 => ?_) (fun h7 => ?_)
      · refine lv_iload_n hx hb dX3_unlistAll_35 rfl (lv_at hl 1 rfl) ?_
        have hD2 : (q, C1) = uaL t 100 0 0 C := hD
        rw [← hD2] at hE
        exact hE hW rfl dX3_unlistAll_36
      · exact absurd h7 (by omega)
    | succ k ih =>
      intro j q C1 hk hD H locs ls hW hl
      refine lv_iload_n hx hb dX3_unlistAll_4 rfl (lv_at hl 2 rfl) ?_
      refine lv_bipush (v := 100) hx hb dX3_unlistAll_5 (by decide) ?_
      refine zc_ge (i := j) (j := 100) (tgt := 35) hx hb rfl rfl (by omega) (by omega) dX3_unlistAll_7 (by decide) (fun h7 => ?_) (fun h7 => ?_)
      · exact absurd h7 (by omega)
      · refine lv_aload_n hx hb dX3_unlistAll_10 rfl (lv_at hl 0 rfl) ?_
        refine g9 (k := 3) (v := .ref (zad G 11 t)) hC hW ht (by decide) mF_X3_24 rfl dX3_unlistAll_11 ?_
        refine lv_iload_n hx hb dX3_unlistAll_14 rfl (lv_at hl 2 rfl) ?_
        refine a11 (j := j) hC hW ht (rfl) (by omega) dX3_unlistAll_15 ?_
        refine lv_if_eq (tgt := 29) hx hb dX3_unlistAll_16 (by decide) (fun h16 => ?_) (fun h16 => ?_)
        · refine lv_iinc (k := 2) (v := nI (j + 1)) (lv' := [(2, .int (nI (j + 1))), (0, .ref (zad G 9 t)), (1, .int (nI q))]) hx hb dX3_unlistAll_29 hl rfl (nI_inc _) (by decide) rfl (fun ls hl => ?_)
          refine lv_goto (tgt := 4) hx hb dX3_unlistAll_32 (by decide) ?_
          exact ih (j + 1) q C1 (by omega) (by rw [← hD, uaL]; simp [h16]) _ _ _ hW (lv_sub hl [1, 2, 0] rfl)
        · refine lv_aload_n hx hb dX3_unlistAll_19 rfl (lv_at hl 0 rfl) ?_
          refine g9 (k := 3) (v := .ref (zad G 11 t)) hC hW ht (by decide) mF_X3_24 rfl dX3_unlistAll_20 ?_
          refine lv_iload_n hx hb dX3_unlistAll_23 rfl (lv_at hl 2 rfl) ?_
          refine lv_iconst (v := 0) hx hb dX3_unlistAll_24 (by decide) ?_
          refine s1011 (f := 11) (j := j) (v := 0) hC hW (by decide) ht (rfl) (by omega) (by decide) dX3_unlistAll_25 (fun _ eS H locs hW => ?_)
          subst eS
          refine lv_iinc (k := 1) (v := nI (q + 1)) (lv' := [(1, .int (nI (q + 1))), (0, .ref (zad G 9 t)), (2, .int (nI j))]) hx hb dX3_unlistAll_26 hl rfl (nI_inc _) (by decide) rfl (fun ls hl => ?_)
          refine lv_iinc (k := 2) (v := nI (j + 1)) (lv' := [(2, .int (nI (j + 1))), (1, .int (nI (q + 1))), (0, .ref (zad G 9 t))]) hx hb dX3_unlistAll_29 hl rfl (nI_inc _) (by decide) rfl (fun ls hl => ?_)
          refine lv_goto (tgt := 4) hx hb dX3_unlistAll_32 (by decide) ?_
          exact ih (j + 1) (q + 1) (sB C1 11 t j 0) (by omega) (by rw [← hD, uaL]; simp [h16]) _ _ _ hW (lv_sub hl [2, 1, 0] rfl)
  exact lp 100 0 0 C rfl rfl _ _ _ hW (lv_sub hl [2, 1, 0] rfl)

set_option maxHeartbeats 4000000 in
set_option maxRecDepth 100000 in
theorem c_X3_listedCount (l : Launch) (G : GG) (C : CS) (M : MS) {t : Nat} (ht : t < zn G) : Ct l G yX3_listedCount cX3_listedCount 3 (some .int) 0 0 [.ref (zad G 9 t)] C M (some (.int (nI (lcL C t 100 0 0)))) C M := by
  refine Ct_i (by decide) (Nat.le_of_ble_eq_true rfl) (fun {p e s m args below meth c A Q ls} hC hW hl hE => ?_)
  have hx := hC.1
  have hb := hC.2.1
  have hl : lv_has ls 3 [(0, .ref (zad G 9 t))] := hl
  refine lv_iconst (v := 0) hx hb dX3_listedCount_0 (by decide) ?_
  refine lv_istore_n (lv' := [(1, .int 0), (0, .ref (zad G 9 t))]) hx hb dX3_listedCount_1 rfl hl (by decide) rfl (fun ls hl => ?_)
  refine lv_iconst (v := 0) hx hb dX3_listedCount_2 (by decide) ?_
  refine lv_istore_n (lv' := [(2, .int 0), (1, .int 0), (0, .ref (zad G 9 t))]) hx hb dX3_listedCount_3 rfl hl (by decide) rfl (fun ls hl => ?_)
  have lp : ∀ (k : Nat) (j : Nat) (q : Nat), j + k = 100 → lcL C t k j q = lcL C t 100 0 0 → ∀ (H : Heap) (locs : List Loc) (ls : Array Slot), Wd G s A s.heap H locs C M → lv_has ls 3 [(0, .ref (zad G 9 t)), (1, .int (nI q)), (2, .int (nI j))] → W p l e { frames := 0, cells := 0, slots := 0, locals := 0 } s m args below meth c H locs 0 0 Q (F0 m 4 ls []) := by
    intro k
    induction k with
    | zero =>
      intro j q hk hD H locs ls hW hl
      refine lv_iload_n hx hb dX3_listedCount_4 rfl (lv_at hl 2 rfl) ?_
      refine lv_bipush (v := 100) hx hb dX3_listedCount_5 (by decide) ?_
      refine zc_ge (i := j) (j := 100) (tgt := 28) hx hb rfl rfl (by omega) (by omega) dX3_listedCount_7 (by decide) (fun h7 => ?_) (fun h7 => ?_)
      · refine lv_iload_n hx hb dX3_listedCount_28 rfl (lv_at hl 1 rfl) ?_
        have qr : (nI q : Int32) = nI (lcL C t 100 0 0) := by rw [← hD]; rfl
        exact hE hW qr dX3_listedCount_29
      · exact absurd h7 (by omega)
    | succ k ih =>
      intro j q hk hD H locs ls hW hl
      refine lv_iload_n hx hb dX3_listedCount_4 rfl (lv_at hl 2 rfl) ?_
      refine lv_bipush (v := 100) hx hb dX3_listedCount_5 (by decide) ?_
      refine zc_ge (i := j) (j := 100) (tgt := 28) hx hb rfl rfl (by omega) (by omega) dX3_listedCount_7 (by decide) (fun h7 => ?_) (fun h7 => ?_)
      · exact absurd h7 (by omega)
      · refine lv_aload_n hx hb dX3_listedCount_10 rfl (lv_at hl 0 rfl) ?_
        refine g9 (k := 3) (v := .ref (zad G 11 t)) hC hW ht (by decide) mF_X3_24 rfl dX3_listedCount_11 ?_
        refine lv_iload_n hx hb dX3_listedCount_14 rfl (lv_at hl 2 rfl) ?_
        refine a11 (j := j) hC hW ht (rfl) (by omega) dX3_listedCount_15 ?_
        refine lv_if_eq (tgt := 22) hx hb dX3_listedCount_16 (by decide) (fun h16 => ?_) (fun h16 => ?_)
        · refine lv_iinc (k := 2) (v := nI (j + 1)) (lv' := [(2, .int (nI (j + 1))), (0, .ref (zad G 9 t)), (1, .int (nI q))]) hx hb dX3_listedCount_22 hl rfl (nI_inc _) (by decide) rfl (fun ls hl => ?_)
          refine lv_goto (tgt := 4) hx hb dX3_listedCount_25 (by decide) ?_
          exact ih (j + 1) q (by omega) (by rw [← hD, lcL]; simp [h16]) _ _ _ hW (lv_sub hl [1, 2, 0] rfl)
        · refine lv_iinc (k := 1) (v := nI (q + 1)) (lv' := [(1, .int (nI (q + 1))), (0, .ref (zad G 9 t)), (2, .int (nI j))]) hx hb dX3_listedCount_19 hl rfl (nI_inc _) (by decide) rfl (fun ls hl => ?_)
          refine lv_iinc (k := 2) (v := nI (j + 1)) (lv' := [(2, .int (nI (j + 1))), (1, .int (nI (q + 1))), (0, .ref (zad G 9 t))]) hx hb dX3_listedCount_22 hl rfl (nI_inc _) (by decide) rfl (fun ls hl => ?_)
          refine lv_goto (tgt := 4) hx hb dX3_listedCount_25 (by decide) ?_
          exact ih (j + 1) (q + 1) (by omega) (by rw [← hD, lcL]; simp [h16]) _ _ _ hW (lv_sub hl [2, 1, 0] rfl)
  exact lp 100 0 0 rfl rfl _ _ _ hW (lv_sub hl [2, 1, 0] rfl)

set_option maxHeartbeats 4000000 in
set_option maxRecDepth 100000 in
theorem c_X3_listAllThatTell (l : Launch) (G : GG) (C : CS) (M : MS) {t : Nat} (ht : t < zn G) (hI : Iv C) : Ct l G yX3_listAllThatTell cX3_listAllThatTell 2 (some .int) 4 87 [.ref (zad G 9 t)] C M (some (.int (nI (lcL (latC C t) t 100 0 0)))) (latC C t) M := by
  refine Ct_i (by decide) (Nat.le_of_ble_eq_true rfl) (fun {p e s m args below meth c A Q ls} hC hW hl hE => ?_)
  have hx := hC.1
  have hb := hC.2.1
  have hl : lv_has ls 2 [(0, .ref (zad G 9 t))] := hl
  have hcp := cap_le t
  have he := hI.1 t
  refine lv_aload_n hx hb dX3_listAllThatTell_0 rfl (lv_at hl 0 rfl) ?_
  refine z_callV (As := []) (rest := []) (st1 := [.int (nI ((uaL t 100 0 0 C).1))]) hC hW (LL_9 ht) rfl rfl rfl (c_X3_unlistAll l G C M ht) mw_X3_unlistAll mv_X3_unlistAll mM_X3_44 ⟨Nat.le_of_ble_eq_true rfl, Nat.le_of_ble_eq_true rfl⟩ rfl rfl hl.1 (lv_room (Nat.le_of_ble_eq_true rfl)) dX3_listAllThatTell_1 rfl (fun H locs hW => ?_) ⟨Nat.zero_le _, Nat.zero_le _⟩
  obtain ⟨C1, eC1⟩ : ∃ z, z = (uaL t 100 0 0 C).2 := ⟨_, rfl⟩
  rw [← eC1] at hW
  refine lv_pop hx hb dX3_listAllThatTell_4 rfl ?_
  refine lv_iconst (v := 0) hx hb dX3_listAllThatTell_5 (by decide) ?_
  refine lv_istore_n (lv' := [(1, .int 0), (0, .ref (zad G 9 t))]) hx hb dX3_listAllThatTell_6 rfl hl (by decide) rfl (fun ls hl => ?_)
  have hI1 : Iv C1 := by rw [eC1]; exact uaL_I _ _ _ _ hI
  have hN1 : cN C1 = cN C := by rw [eC1]; exact uaL_N _ _ _ _
  have lp : ∀ (k : Nat) (j : Nat) (Cj : CS), j + k = cN C 5 t 3 → Iv Cj → cN Cj = cN C → latL t k j Cj = latC C t → ∀ (H : Heap) (locs : List Loc) (ls : Array Slot), Wd G s A s.heap H locs Cj M → lv_has ls 2 [(0, .ref (zad G 9 t)), (1, .int (nI j))] → W p l e { frames := 4, cells := 0, slots := 0, locals := 87 } s m args below meth c H locs 0 0 Q (F0 m 7 ls []) := by
    intro k
    induction k with
    | zero =>
      intro j Cj hk hI1 hNj hD H locs ls hW hl
      have hcpj := hI1.1 t
      refine lv_iload_n hx hb dX3_listAllThatTell_7 rfl (lv_at hl 1 rfl) ?_
      refine lv_aload_n hx hb dX3_listAllThatTell_8 rfl (lv_at hl 0 rfl) ?_
      refine g9 (k := 1) (v := .ref (zad G 5 t)) hC hW ht (by decide) mF_X3_14 rfl dX3_listAllThatTell_9 ?_
      refine g5 (k := 3) (v := .int (nI (cN Cj 5 t 3))) hC hW (Or.inl ht) (by decide) mF_X3_31 rfl dX3_listAllThatTell_12 ?_
      refine zc_ge (i := j) (j := cN Cj 5 t 3) (tgt := 37) hx hb rfl rfl (by omega) (by omega) dX3_listAllThatTell_15 (by decide) (fun h15 => ?_) (fun h15 => ?_)
      · refine lv_aload_n hx hb dX3_listAllThatTell_37 rfl (lv_at hl 0 rfl) ?_
        refine z_callV (As := []) (rest := []) (st1 := [.int (nI (lcL Cj t 100 0 0))]) hC hW (LL_9 ht) rfl rfl rfl (c_X3_listedCount l G Cj M ht) mw_X3_listedCount mv_X3_listedCount mM_X3_55 ⟨Nat.le_of_ble_eq_true rfl, Nat.le_of_ble_eq_true rfl⟩ rfl rfl hl.1 (lv_room (Nat.le_of_ble_eq_true rfl)) dX3_listAllThatTell_38 rfl (fun H locs hW => ?_) ⟨Nat.zero_le _, Nat.zero_le _⟩
        have hD2 : Cj = latC C t := hD
        rw [← hD2] at hE
        exact hE hW rfl dX3_listAllThatTell_41
      · exact absurd h15 (by rw [hNj]; omega)
    | succ k ih =>
      intro j Cj hk hI1 hNj hD H locs ls hW hl
      have hcpj := hI1.1 t
      refine lv_iload_n hx hb dX3_listAllThatTell_7 rfl (lv_at hl 1 rfl) ?_
      refine lv_aload_n hx hb dX3_listAllThatTell_8 rfl (lv_at hl 0 rfl) ?_
      refine g9 (k := 1) (v := .ref (zad G 5 t)) hC hW ht (by decide) mF_X3_14 rfl dX3_listAllThatTell_9 ?_
      refine g5 (k := 3) (v := .int (nI (cN Cj 5 t 3))) hC hW (Or.inl ht) (by decide) mF_X3_31 rfl dX3_listAllThatTell_12 ?_
      refine zc_ge (i := j) (j := cN Cj 5 t 3) (tgt := 37) hx hb rfl rfl (by omega) (by omega) dX3_listAllThatTell_15 (by decide) (fun h15 => ?_) (fun h15 => ?_)
      · exact absurd h15 (by rw [hNj]; omega)
      · refine lv_aload_n hx hb dX3_listAllThatTell_18 rfl (lv_at hl 0 rfl) ?_
        refine lv_iload_n hx hb dX3_listAllThatTell_19 rfl (lv_at hl 1 rfl) ?_
        refine z_callV (As := [.int (nI j)]) (rest := []) (st1 := [.int (bI (tfP Cj t j))]) hC hW (LL_9 ht) rfl rfl rfl (c_X3_tellsFile l G Cj M ht (h := j) (by omega) hI1) mw_X3_tellsFile mv_X3_tellsFile mM_X3_48 ⟨Nat.le_of_ble_eq_true rfl, Nat.le_of_ble_eq_true rfl⟩ rfl rfl hl.1 (lv_room (Nat.le_of_ble_eq_true rfl)) dX3_listAllThatTell_20 rfl (fun H locs hW => ?_) ⟨Nat.zero_le _, Nat.zero_le _⟩
        refine zb_eq (tgt := 31) hx hb (tfP Cj t j) rfl dX3_listAllThatTell_23 (by decide) (fun h23 => ?_) (fun h23 => ?_)
        · refine lv_iinc (k := 1) (v := nI (j + 1)) (lv' := [(1, .int (nI (j + 1))), (0, .ref (zad G 9 t))]) hx hb dX3_listAllThatTell_31 hl rfl (nI_inc _) (by decide) rfl (fun ls hl => ?_)
          refine lv_goto (tgt := 7) hx hb dX3_listAllThatTell_34 (by decide) ?_
          exact ih (j + 1) Cj (by omega) hI1 hNj (by rw [← hD, latL, if_neg h23]) _ _ _ hW (lv_sub hl [1, 0] rfl)
        · refine lv_aload_n hx hb dX3_listAllThatTell_26 rfl (lv_at hl 0 rfl) ?_
          refine lv_iload_n hx hb dX3_listAllThatTell_27 rfl (lv_at hl 1 rfl) ?_
          refine z_callV (As := [.int (nI j)]) (rest := []) (st1 := []) hC hW (LL_9 ht) rfl rfl rfl (c_X3_list l G Cj M ht hI1 (h := j) (by omega)) mw_X3_list mv_X3_list mM_X3_52 ⟨Nat.le_of_ble_eq_true rfl, Nat.le_of_ble_eq_true rfl⟩ rfl rfl hl.1 (lv_room (Nat.le_of_ble_eq_true rfl)) dX3_listAllThatTell_28 rfl (fun H locs hW => ?_) ⟨Nat.zero_le _, Nat.zero_le _⟩
          obtain ⟨C2, eC2⟩ : ∃ z, z = listC Cj t j := ⟨_, rfl⟩
          rw [← eC2] at hW
          refine lv_iinc (k := 1) (v := nI (j + 1)) (lv' := [(1, .int (nI (j + 1))), (0, .ref (zad G 9 t))]) hx hb dX3_listAllThatTell_31 hl rfl (nI_inc _) (by decide) rfl (fun ls hl => ?_)
          refine lv_goto (tgt := 7) hx hb dX3_listAllThatTell_34 (by decide) ?_
          exact ih (j + 1) C2 (by omega) (by rw [eC2]; exact Iv_listC hI1) (by rw [eC2, cN_listC]; exact hNj) (by rw [← hD, latL, if_pos h23, eC2]) _ _ _ hW (lv_sub hl [1, 0] rfl)
  exact lp (cN C 5 t 3) 0 C1 (by omega) hI1 hN1 (by rw [eC1]; rfl) _ _ _ hW (lv_sub hl [1, 0] rfl)

