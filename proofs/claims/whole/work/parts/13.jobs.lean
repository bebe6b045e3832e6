/-! ===== the class: jobs ===== -/

set_option maxHeartbeats 4000000 in
set_option maxRecDepth 100000 in
theorem c_X4_copyJob_n (l : Launch) (G : GG) (C : CS) (M : MS) (h12 : zn G ≤ 12) {t : Nat} (ht : t < zn G) (hI : Iv C) (hT : ∀ d t, cM C d = some t → t < zn G) (hs : 0 < cN C 5 12 3) (hN : ndC C t = none) : Ct l G yX4_copyJob cX4_copyJob 4 (some .int) 5 110 [.ref (zad G 0 0), .ref (zad G 9 t)] C M (some (.int ((copC C t).1))) ((copC C t).2) M := by
  refine Ct_i (by decide) (Nat.le_of_ble_eq_true rfl) (fun {p e s m args below meth c A Q ls} hC hW hl hE => ?_)
  have hx := hC.1
  have hb := hC.2.1
  have hl : lv_has ls 4 [(0, .ref (zad G 0 0)), (1, .ref (zad G 9 t))] := hl
  refine lv_aload_n hx hb dX4_copyJob_0 rfl (lv_at hl 0 rfl) ?_
  refine lv_aload_n hx hb dX4_copyJob_1 rfl (lv_at hl 1 rfl) ?_
  refine z_callV (As := [.ref (zad G 9 t)]) (rest := []) (st1 := [.null]) hC hW LL_0 rfl rfl rfl (nd_n l G C M ht hI hT hN) mw_X4_nearestDrive mv_X4_nearestDrive mM_X4_166 ⟨Nat.le_of_ble_eq_true rfl, Nat.le_of_ble_eq_true rfl⟩ rfl rfl hl.1 (lv_room (Nat.le_of_ble_eq_true rfl)) dX4_copyJob_2 rfl (fun H locs hW => ?_) ⟨Nat.zero_le _, Nat.zero_le _⟩
  refine lv_astore_nN (lv' := [(2, .null), (0, .ref (zad G 0 0)), (1, .ref (zad G 9 t))]) hx hb dX4_copyJob_5 rfl hl (by decide) rfl (fun ls hl => ?_)
  refine lv_aload_nN hx hb dX4_copyJob_6 rfl (lv_at hl 0 rfl) ?_
  refine lv_ifnonnullN hx hb dX4_copyJob_7 ?_
  refine lv_bipush (v := (-3)) hx hb dX4_copyJob_10 (by decide) ?_
  have hD2 : copC C t = (-3, C) := by unfold copC; rw [hN]
  rw [hD2] at hE
  exact hE hW rfl dX4_copyJob_12

set_option maxHeartbeats 4000000 in
set_option maxRecDepth 100000 in
theorem c_X4_copyJob_s (l : Launch) (G : GG) (C : CS) (M : MS) (h12 : zn G ≤ 12) {t : Nat} (ht : t < zn G) (hI : Iv C) (hT : ∀ d t, cM C d = some t → t < zn G) (hs : 0 < cN C 5 12 3) {d : Nat} (hN : ndC C t = some d) : Ct l G yX4_copyJob cX4_copyJob 4 (some .int) 5 110 [.ref (zad G 0 0), .ref (zad G 9 t)] C M (some (.int ((copC C t).1))) ((copC C t).2) M := by
  refine Ct_i (by decide) (Nat.le_of_ble_eq_true rfl) (fun {p e s m args below meth c A Q ls} hC hW hl hE => ?_)
  have hx := hC.1
  have hb := hC.2.1
  have hl : lv_has ls 4 [(0, .ref (zad G 0 0)), (1, .ref (zad G 9 t))] := hl
  have nd := nd_some hN
  refine lv_aload_n hx hb dX4_copyJob_0 rfl (lv_at hl 0 rfl) ?_
  refine lv_aload_n hx hb dX4_copyJob_1 rfl (lv_at hl 1 rfl) ?_
  refine z_callV (As := [.ref (zad G 9 t)]) (rest := []) (st1 := [.ref (zad G 3 d)]) hC hW LL_0 rfl rfl rfl (nd_s l G C M ht hI hT hN) mw_X4_nearestDrive mv_X4_nearestDrive mM_X4_166 ⟨Nat.le_of_ble_eq_true rfl, Nat.le_of_ble_eq_true rfl⟩ rfl rfl hl.1 (lv_room (Nat.le_of_ble_eq_true rfl)) dX4_copyJob_2 rfl (fun H locs hW => ?_) ⟨Nat.zero_le _, Nat.zero_le _⟩
  refine lv_astore_n (lv' := [(2, .ref (zad G 3 d)), (0, .ref (zad G 0 0)), (1, .ref (zad G 9 t))]) hx hb dX4_copyJob_5 rfl hl (by decide) rfl (fun ls hl => ?_)
  refine lv_aload_n hx hb dX4_copyJob_6 rfl (lv_at hl 0 rfl) ?_
  refine lv_ifnonnull (tgt := 13) hx hb dX4_copyJob_7 (by decide) ?_
  refine lv_aload_n hx hb dX4_copyJob_13 rfl (lv_at hl 0 rfl) ?_
  refine lv_aload_n hx hb dX4_copyJob_14 rfl (lv_at hl 2 rfl) ?_
  refine z_callV (As := [.ref (zad G 9 t)]) (rest := []) (st1 := [.int ((carC C d t).1)]) hC hW (LL_3 nd.1) rfl rfl rfl (c_X1_carry l G C M nd.1 ht hI) mw_X1_carry mv_X1_carry mM_X4_170 ⟨Nat.le_of_ble_eq_true rfl, Nat.le_of_ble_eq_true rfl⟩ rfl rfl hl.1 (lv_room (Nat.le_of_ble_eq_true rfl)) dX4_copyJob_15 rfl (fun H locs hW => ?_) ⟨Nat.zero_le _, Nat.zero_le _⟩
  obtain ⟨C1, eC1⟩ : ∃ z, z = (carC C d t).2 := ⟨_, rfl⟩
  rw [← eC1] at hW
  have hI1 : Iv C1 := by rw [eC1]; exact carC_I hI
  refine lv_istore_n (lv' := [(3, .int ((carC C d t).1)), (2, .ref (zad G 3 d)), (0, .ref (zad G 0 0)), (1, .ref (zad G 9 t))]) hx hb dX4_copyJob_18 rfl hl (by decide) rfl (fun ls hl => ?_)
  have J : ∀ (u : Int32) (Cx : CS), cop1 C d t = (u, Cx) → cM Cx d = some t → Iv Cx → ∀ (H : Heap) (locs : List Loc) (ls : Array Slot), Wd G s A s.heap H locs Cx M → lv_has ls 4 [(0, .ref (zad G 0 0)), (1, .ref (zad G 9 t)), (2, .ref (zad G 3 d)), (3, .int u)] → W p l e { frames := 5, cells := 0, slots := 0, locals := 110 } s m args below meth c H locs 0 0 Q (F0 m 36 ls []) := by
    intro u Cx hQ hMx hIx H locs ls hW hl
    refine lv_aload_n hx hb dX4_copyJob_36 rfl (lv_at hl 2 rfl) ?_
    refine z_callV (As := []) (rest := []) (st1 := []) hC hW (LL_3 nd.1) rfl rfl rfl (c_X1_bringHome l G Cx M nd.1 ht hMx) mw_X1_bringHome mv_X1_bringHome mM_X4_177 ⟨Nat.le_of_ble_eq_true rfl, Nat.le_of_ble_eq_true rfl⟩ rfl rfl hl.1 (lv_room (Nat.le_of_ble_eq_true rfl)) dX4_copyJob_37 rfl (fun H locs hW => ?_) ⟨Nat.zero_le _, Nat.zero_le _⟩
    obtain ⟨C2, eC2⟩ : ∃ z, z = briC Cx d t := ⟨_, rfl⟩
    rw [← eC2] at hW
    refine lv_iload_n hx hb dX4_copyJob_40 rfl (lv_at hl 3 rfl) ?_
    refine lv_if_lt (tgt := 49) hx hb dX4_copyJob_41 (by decide) (fun h41 => ?_) (fun h41 => ?_)
    · refine lv_iload_n hx hb dX4_copyJob_49 rfl (lv_at hl 3 rfl) ?_
      have hD2 : copC C t = (u, C2) := by unfold copC; rw [hN]; show copD C d t = _; unfold copD; rw [hQ]; show (u, if u < 0 then briC Cx d t else _) = _; rw [if_pos h41, eC2]
      rw [hD2] at hE
      exact hE hW rfl dX4_copyJob_50
    · refine lv_aload_n hx hb dX4_copyJob_44 rfl (lv_at hl 1 rfl) ?_
      refine lv_iload_n hx hb dX4_copyJob_45 rfl (lv_at hl 3 rfl) ?_
      obtain ⟨h, hh, hv⟩ := cop1_nn hs (by rw [hQ]; exact h41)
      rw [hQ] at hv
      refine z_top (y := nI h) hv ?_
      refine z_callV (As := [.int (nI h)]) (rest := []) (st1 := []) hC hW (LL_9 ht) rfl rfl rfl (c_X3_list l G C2 M ht (by rw [eC2]; exact briC_I hIx) (h := h) hh) mw_X3_list mv_X3_list mM_X4_180 ⟨Nat.le_of_ble_eq_true rfl, Nat.le_of_ble_eq_true rfl⟩ rfl rfl hl.1 (lv_room (Nat.le_of_ble_eq_true rfl)) dX4_copyJob_46 rfl (fun H locs hW => ?_) ⟨Nat.zero_le _, Nat.zero_le _⟩
      obtain ⟨C3, eC3⟩ : ∃ z, z = listC C2 t h := ⟨_, rfl⟩
      rw [← eC3] at hW
      refine lv_iload_n hx hb dX4_copyJob_49 rfl (lv_at hl 3 rfl) ?_
      have hD2 : copC C t = (u, C3) := by unfold copC; rw [hN]; show copD C d t = _; unfold copD; rw [hQ]; show (u, if u < 0 then briC Cx d t else listC (briC Cx d t) t u.toNatClampNeg) = _; rw [if_neg h41, show u.toNatClampNeg = h from by rw [show u = nI h from hv, cl_nI hh], eC3, eC2]
      rw [hD2] at hE
      exact hE hW rfl dX4_copyJob_50
  refine lv_iload_n hx hb dX4_copyJob_19 rfl (lv_at hl 0 rfl) ?_
  refine lv_if_ne (tgt := 36) hx hb dX4_copyJob_20 (by decide) (fun h20 => ?_) (fun h20 => ?_)
  · exact J ((carC C d t).1) C1 (by unfold cop1; rw [if_pos h20, eC1]) (by rw [eC1, carC_M, if_pos rfl]) (by rw [eC1]; exact carC_I hI) _ _ _ hW (lv_sub hl [2, 3, 1, 0] rfl)
  · refine lv_aload_n hx hb dX4_copyJob_23 rfl (lv_at hl 2 rfl) ?_
    refine lv_aload_n hx hb dX4_copyJob_24 rfl (lv_at hl 1 rfl) ?_
    refine lv_aload_n hx hb dX4_copyJob_25 rfl (lv_at hl 3 rfl) ?_
    refine g9 (k := 1) (v := .ref (zad G 5 t)) hC hW ht (by decide) mF_X4_117 rfl dX4_copyJob_26 ?_
    refine g5 (k := 3) (v := .int (nI (cN C1 5 t 3))) hC hW (Or.inl ht) (by decide) mF_X4_66 rfl dX4_copyJob_29 ?_
    refine z_callV (As := [.ref (zad G 3 d), .int (nI (cN C1 5 t 3))]) (rest := []) (st1 := [.int ((wsC C1 d t (cN C1 5 t 3)).1)]) hC hW LL_0 rfl rfl rfl (c_X4_writeStaged l G C1 M h12 nd.1 ht (by rw [eC1, carC_M, if_pos rfl]) hI1 (h := cN C1 5 t 3) (by rw [eC1, carC_pos]; omega) (by have := hI1.1 t; have := cap_le t; omega)) mw_X4_writeStaged mv_X4_writeStaged mM_X4_173 ⟨Nat.le_of_ble_eq_true rfl, Nat.le_of_ble_eq_true rfl⟩ rfl rfl hl.1 (lv_room (Nat.le_of_ble_eq_true rfl)) dX4_copyJob_32 rfl (fun H locs hW => ?_) ⟨Nat.zero_le _, Nat.zero_le _⟩
    obtain ⟨C4, eC4⟩ : ∃ z, z = (wsC C1 d t (cN C1 5 t 3)).2 := ⟨_, rfl⟩
    rw [← eC4] at hW
    refine lv_istore_n (lv' := [(3, .int ((wsC C1 d t (cN C1 5 t 3)).1)), (2, .ref (zad G 3 d)), (0, .ref (zad G 0 0)), (1, .ref (zad G 9 t))]) hx hb dX4_copyJob_35 rfl hl (by decide) rfl (fun ls hl => ?_)
    exact J ((wsC C1 d t (cN C1 5 t 3)).1) C4 (by unfold cop1; rw [if_neg (fun q => q h20), ← eC1, eC4]) (by rw [eC4, wsC_M, eC1, carC_M, if_pos rfl]) (by rw [eC4]; exact wsC_I (by rw [eC1]; exact carC_I hI)) _ _ _ hW (lv_sub hl [2, 3, 1, 0] rfl)

theorem c_X4_copyJob (l : Launch) (G : GG) (C : CS) (M : MS) (h12 : zn G ≤ 12) {t : Nat} (ht : t < zn G) (hI : Iv C) (hT : ∀ d t, cM C d = some t → t < zn G) (hs : 0 < cN C 5 12 3) : Ct l G yX4_copyJob cX4_copyJob 4 (some .int) 5 110 [.ref (zad G 0 0), .ref (zad G 9 t)] C M (some (.int (copC C t).1)) (copC C t).2 M := by
  cases hN : ndC C t with
  | none => exact c_X4_copyJob_n l G C M h12 ht hI hT hs hN
  | some d => exact c_X4_copyJob_s l G C M h12 ht hI hT hs hN

set_option maxHeartbeats 4000000 in
set_option maxRecDepth 100000 in
theorem c_X4_readJob_n (l : Launch) (G : GG) (C : CS) (M : MS) {t : Nat} (ht : t < zn G) (hI : Iv C) (hT : ∀ d t, cM C d = some t → t < zn G) (h12 : zn G ≤ 12) {h : Nat} (hh : h < 100) (hN : ndC C t = none) : Ct l G yX4_readJob cX4_readJob 5 (some .int) 4 89 [.ref (zad G 0 0), .ref (zad G 9 t), .int (nI h)] C M (some (.int ((rjC C t h).1))) ((rjC C t h).2) M := by
  refine Ct_i (by decide) (Nat.le_of_ble_eq_true rfl) (fun {p e s m args below meth c A Q ls} hC hW hl hE => ?_)
  have hx := hC.1
  have hb := hC.2.1
  have hl : lv_has ls 5 [(0, .ref (zad G 0 0)), (1, .ref (zad G 9 t)), (2, .int (nI h))] := hl
  refine lv_aload_n hx hb dX4_readJob_0 rfl (lv_at hl 0 rfl) ?_
  refine lv_aload_n hx hb dX4_readJob_1 rfl (lv_at hl 1 rfl) ?_
  refine z_callV (As := [.ref (zad G 9 t)]) (rest := []) (st1 := [.null]) hC hW LL_0 rfl rfl rfl (nd_n l G C M ht hI hT hN) mw_X4_nearestDrive mv_X4_nearestDrive mM_X4_166 ⟨Nat.le_of_ble_eq_true rfl, Nat.le_of_ble_eq_true rfl⟩ rfl rfl hl.1 (lv_room (Nat.le_of_ble_eq_true rfl)) dX4_readJob_2 rfl (fun H locs hW => ?_) ⟨Nat.zero_le _, Nat.zero_le _⟩
  refine lv_astore_nN (lv' := [(3, .null), (0, .ref (zad G 0 0)), (1, .ref (zad G 9 t)), (2, .int (nI h))]) hx hb dX4_readJob_5 rfl hl (by decide) rfl (fun ls hl => ?_)
  refine lv_aload_nN hx hb dX4_readJob_6 rfl (lv_at hl 0 rfl) ?_
  refine lv_ifnonnullN hx hb dX4_readJob_7 ?_
  refine lv_bipush (v := (-3)) hx hb dX4_readJob_10 (by decide) ?_
  have hD2 : rjC C t h = (-3, C) := by unfold rjC; rw [hN]
  rw [hD2] at hE
  exact hE hW rfl dX4_readJob_12

set_option maxHeartbeats 4000000 in
set_option maxRecDepth 100000 in
theorem c_X4_readJob_s (l : Launch) (G : GG) (C : CS) (M : MS) {t : Nat} (ht : t < zn G) (hI : Iv C) (hT : ∀ d t, cM C d = some t → t < zn G) (h12 : zn G ≤ 12) {h : Nat} (hh : h < 100) {d : Nat} (hN : ndC C t = some d) : Ct l G yX4_readJob cX4_readJob 5 (some .int) 4 89 [.ref (zad G 0 0), .ref (zad G 9 t), .int (nI h)] C M (some (.int ((rjC C t h).1))) ((rjC C t h).2) M := by
  refine Ct_i (by decide) (Nat.le_of_ble_eq_true rfl) (fun {p e s m args below meth c A Q ls} hC hW hl hE => ?_)
  have hx := hC.1
  have hb := hC.2.1
  have hl : lv_has ls 5 [(0, .ref (zad G 0 0)), (1, .ref (zad G 9 t)), (2, .int (nI h))] := hl
  have nd := nd_some hN
  refine lv_aload_n hx hb dX4_readJob_0 rfl (lv_at hl 0 rfl) ?_
  refine lv_aload_n hx hb dX4_readJob_1 rfl (lv_at hl 1 rfl) ?_
  refine z_callV (As := [.ref (zad G 9 t)]) (rest := []) (st1 := [.ref (zad G 3 d)]) hC hW LL_0 rfl rfl rfl (nd_s l G C M ht hI hT hN) mw_X4_nearestDrive mv_X4_nearestDrive mM_X4_166 ⟨Nat.le_of_ble_eq_true rfl, Nat.le_of_ble_eq_true rfl⟩ rfl rfl hl.1 (lv_room (Nat.le_of_ble_eq_true rfl)) dX4_readJob_2 rfl (fun H locs hW => ?_) ⟨Nat.zero_le _, Nat.zero_le _⟩
  refine lv_astore_n (lv' := [(3, .ref (zad G 3 d)), (0, .ref (zad G 0 0)), (1, .ref (zad G 9 t)), (2, .int (nI h))]) hx hb dX4_readJob_5 rfl hl (by decide) rfl (fun ls hl => ?_)
  refine lv_aload_n hx hb dX4_readJob_6 rfl (lv_at hl 0 rfl) ?_
  refine lv_ifnonnull (tgt := 13) hx hb dX4_readJob_7 (by decide) ?_
  refine lv_aload_n hx hb dX4_readJob_13 rfl (lv_at hl 0 rfl) ?_
  refine lv_aload_n hx hb dX4_readJob_14 rfl (lv_at hl 2 rfl) ?_
  refine z_callV (As := [.ref (zad G 9 t)]) (rest := []) (st1 := [.int ((carC C d t).1)]) hC hW (LL_3 nd.1) rfl rfl rfl (c_X1_carry l G C M nd.1 ht hI) mw_X1_carry mv_X1_carry mM_X4_170 ⟨Nat.le_of_ble_eq_true rfl, Nat.le_of_ble_eq_true rfl⟩ rfl rfl hl.1 (lv_room (Nat.le_of_ble_eq_true rfl)) dX4_readJob_15 rfl (fun H locs hW => ?_) ⟨Nat.zero_le _, Nat.zero_le _⟩
  obtain ⟨C1, eC1⟩ : ∃ z, z = (carC C d t).2 := ⟨_, rfl⟩
  rw [← eC1] at hW
  have hI1 : Iv C1 := by rw [eC1]; exact carC_I hI
  refine lv_istore (lv' := [(4, .int ((carC C d t).1)), (3, .ref (zad G 3 d)), (0, .ref (zad G 0 0)), (1, .ref (zad G 9 t)), (2, .int (nI h))]) hx hb dX4_readJob_18 hl (by decide) rfl (fun ls hl => ?_)
  have J : ∀ (u : Int32) (Cx : CS), rj1 C d t h = (u, Cx) → cM Cx d = some t → ∀ (H : Heap) (locs : List Loc) (ls : Array Slot), Wd G s A s.heap H locs Cx M → lv_has ls 5 [(0, .ref (zad G 0 0)), (1, .ref (zad G 9 t)), (2, .int (nI h)), (3, .ref (zad G 3 d)), (4, .int u)] → W p l e { frames := 4, cells := 0, slots := 0, locals := 89 } s m args below meth c H locs 0 0 Q (F0 m 37 ls []) := by
    intro u Cx hQ hMx H locs ls hW hl
    refine lv_aload_n hx hb dX4_readJob_37 rfl (lv_at hl 3 rfl) ?_
    refine z_callV (As := []) (rest := []) (st1 := []) hC hW (LL_3 nd.1) rfl rfl rfl (c_X1_bringHome l G Cx M nd.1 ht hMx) mw_X1_bringHome mv_X1_bringHome mM_X4_177 ⟨Nat.le_of_ble_eq_true rfl, Nat.le_of_ble_eq_true rfl⟩ rfl rfl hl.1 (lv_room (Nat.le_of_ble_eq_true rfl)) dX4_readJob_38 rfl (fun H locs hW => ?_) ⟨Nat.zero_le _, Nat.zero_le _⟩
    obtain ⟨C2, eC2⟩ : ∃ z, z = briC Cx d t := ⟨_, rfl⟩
    rw [← eC2] at hW
    refine lv_iload hx hb dX4_readJob_41 (lv_at hl 4 rfl) ?_
    have hD2 : rjC C t h = (u, C2) := by unfold rjC; rw [hN]; show ((rj1 C d t h).1, briC (rj1 C d t h).2 d t) = _; rw [hQ, eC2]
    rw [hD2] at hE
    exact hE hW rfl dX4_readJob_43
  refine lv_iload hx hb dX4_readJob_20 (lv_at hl 0 rfl) ?_
  refine lv_if_ne (tgt := 37) hx hb dX4_readJob_22 (by decide) (fun h22 => ?_) (fun h22 => ?_)
  · exact J ((carC C d t).1) C1 (by unfold rj1; rw [if_pos h22, eC1]) (by rw [eC1, carC_M, if_pos rfl]) _ _ _ hW (lv_sub hl [2, 3, 4, 1, 0] rfl)
  · refine lv_aload_n hx hb dX4_readJob_25 rfl (lv_at hl 2 rfl) ?_
    refine lv_aload_n hx hb dX4_readJob_26 rfl (lv_at hl 1 rfl) ?_
    refine lv_aload_n hx hb dX4_readJob_27 rfl (lv_at hl 3 rfl) ?_
    refine g9 (k := 1) (v := .ref (zad G 5 t)) hC hW ht (by decide) mF_X4_117 rfl dX4_readJob_28 ?_
    refine lv_iload_n hx hb dX4_readJob_31 rfl (lv_at hl 4 rfl) ?_
    refine z_callV (As := [.ref (zad G 3 d), .ref (zad G 5 t), .int (nI h)]) (rest := []) (st1 := [.int ((rfC C1 d t h).1)]) hC hW LL_0 rfl rfl rfl (c_X4_readFile l G C1 M h12 nd.1 ht (by rw [eC1, carC_M, if_pos rfl]) hI1 (h := h) (by rw [eC1, carC_pos]; omega) hh) mw_X4_readFile mv_X4_readFile mM_X4_193 ⟨Nat.le_of_ble_eq_true rfl, Nat.le_of_ble_eq_true rfl⟩ rfl rfl hl.1 (lv_room (Nat.le_of_ble_eq_true rfl)) dX4_readJob_32 rfl (fun H locs hW => ?_) ⟨Nat.zero_le _, Nat.zero_le _⟩
    obtain ⟨C3, eC3⟩ : ∃ z, z = (rfC C1 d t h).2 := ⟨_, rfl⟩
    rw [← eC3] at hW
    refine lv_istore (lv' := [(4, .int ((rfC C1 d t h).1)), (3, .ref (zad G 3 d)), (0, .ref (zad G 0 0)), (1, .ref (zad G 9 t)), (2, .int (nI h))]) hx hb dX4_readJob_35 hl (by decide) rfl (fun ls hl => ?_)
    exact J ((rfC C1 d t h).1) C3 (by unfold rj1; rw [if_neg (fun q => q h22), ← eC1, eC3]) (by rw [eC3, Sm_rfC.2.2, eC1, carC_M, if_pos rfl]) _ _ _ hW (lv_sub hl [2, 3, 4, 1, 0] rfl)

theorem c_X4_readJob (l : Launch) (G : GG) (C : CS) (M : MS) {t : Nat} (ht : t < zn G) (hI : Iv C) (hT : ∀ d t, cM C d = some t → t < zn G) (h12 : zn G ≤ 12) {h : Nat} (hh : h < 100) : Ct l G yX4_readJob cX4_readJob 5 (some .int) 4 89 [.ref (zad G 0 0), .ref (zad G 9 t), .int (nI h)] C M (some (.int (rjC C t h).1)) (rjC C t h).2 M := by
  cases hN : ndC C t with
  | none => exact c_X4_readJob_n l G C M ht hI hT h12 hh hN
  | some d => exact c_X4_readJob_s l G C M ht hI hT h12 hh hN

set_option maxHeartbeats 4000000 in
set_option maxRecDepth 100000 in
theorem c_X4_moveInto_n (l : Launch) (G : GG) (C : CS) (M : MS) {d1 t1 t2 : Nat} (hd1 : d1 < 3) (ht1 : t1 < zn G) (hM1 : cM C d1 = some t1) (ht2 : t2 < zn G) (hI : Iv C) (hT : ∀ d t, cM C d = some t → t < zn G) {q : Nat} (hp1 : cN C 3 d1 8 ≤ q) (hq : q < 100) (hN : ndC C t2 = none) : Ct l G yX4_moveInto cX4_moveInto 7 (some .int) 5 114 [.ref (zad G 0 0), .ref (zad G 9 t2), .ref (zad G 3 d1), .ref (zad G 5 t1), .int (nI q)] C M (some (.int ((miC C d1 t1 t2 q).1))) ((miC C d1 t1 t2 q).2) M := by
  refine Ct_i (by decide) (Nat.le_of_ble_eq_true rfl) (fun {p e s m args below meth c A Q ls} hC hW hl hE => ?_)
  have hx := hC.1
  have hb := hC.2.1
  have hl : lv_has ls 7 [(0, .ref (zad G 0 0)), (1, .ref (zad G 9 t2)), (2, .ref (zad G 3 d1)), (3, .ref (zad G 5 t1)), (4, .int (nI q))] := hl
  refine lv_aload_n hx hb dX4_moveInto_0 rfl (lv_at hl 0 rfl) ?_
  refine lv_aload_n hx hb dX4_moveInto_1 rfl (lv_at hl 1 rfl) ?_
  refine z_callV (As := [.ref (zad G 9 t2)]) (rest := []) (st1 := [.null]) hC hW LL_0 rfl rfl rfl (nd_n l G C M ht2 hI hT hN) mw_X4_nearestDrive mv_X4_nearestDrive mM_X4_166 ⟨Nat.le_of_ble_eq_true rfl, Nat.le_of_ble_eq_true rfl⟩ rfl rfl hl.1 (lv_room (Nat.le_of_ble_eq_true rfl)) dX4_moveInto_2 rfl (fun H locs hW => ?_) ⟨Nat.zero_le _, Nat.zero_le _⟩
  refine lv_astoreN (lv' := [(5, .null), (0, .ref (zad G 0 0)), (1, .ref (zad G 9 t2)), (2, .ref (zad G 3 d1)), (3, .ref (zad G 5 t1)), (4, .int (nI q))]) hx hb dX4_moveInto_5 hl (by decide) rfl (fun ls hl => ?_)
  refine lv_aloadN hx hb dX4_moveInto_7 (lv_at hl 0 rfl) ?_
  refine lv_ifnonnullN hx hb dX4_moveInto_9 ?_
  refine lv_bipush (v := (-3)) hx hb dX4_moveInto_12 (by decide) ?_
  have hD2 : miC C d1 t1 t2 q = (-3, C) := by unfold miC; rw [hN]
  rw [hD2] at hE
  exact hE hW rfl dX4_moveInto_14

set_option maxHeartbeats 4000000 in
set_option maxRecDepth 100000 in
theorem c_X4_moveInto_s (l : Launch) (G : GG) (C : CS) (M : MS) {d1 t1 t2 : Nat} (hd1 : d1 < 3) (ht1 : t1 < zn G) (hM1 : cM C d1 = some t1) (ht2 : t2 < zn G) (hI : Iv C) (hT : ∀ d t, cM C d = some t → t < zn G) {q : Nat} (hp1 : cN C 3 d1 8 ≤ q) (hq : q < 100) {d2 : Nat} (hN : ndC C t2 = some d2) : Ct l G yX4_moveInto cX4_moveInto 7 (some .int) 5 114 [.ref (zad G 0 0), .ref (zad G 9 t2), .ref (zad G 3 d1), .ref (zad G 5 t1), .int (nI q)] C M (some (.int ((miC C d1 t1 t2 q).1))) ((miC C d1 t1 t2 q).2) M := by
  refine Ct_i (by decide) (Nat.le_of_ble_eq_true rfl) (fun {p e s m args below meth c A Q ls} hC hW hl hE => ?_)
  have hx := hC.1
  have hb := hC.2.1
  have hl : lv_has ls 7 [(0, .ref (zad G 0 0)), (1, .ref (zad G 9 t2)), (2, .ref (zad G 3 d1)), (3, .ref (zad G 5 t1)), (4, .int (nI q))] := hl
  have nd := nd_some hN
  have hdd : d1 ≠ d2 := by intro z; have := nd.2.2; rw [← z, hM1] at this; cases this
  refine lv_aload_n hx hb dX4_moveInto_0 rfl (lv_at hl 0 rfl) ?_
  refine lv_aload_n hx hb dX4_moveInto_1 rfl (lv_at hl 1 rfl) ?_
  refine z_callV (As := [.ref (zad G 9 t2)]) (rest := []) (st1 := [.ref (zad G 3 d2)]) hC hW LL_0 rfl rfl rfl (nd_s l G C M ht2 hI hT hN) mw_X4_nearestDrive mv_X4_nearestDrive mM_X4_166 ⟨Nat.le_of_ble_eq_true rfl, Nat.le_of_ble_eq_true rfl⟩ rfl rfl hl.1 (lv_room (Nat.le_of_ble_eq_true rfl)) dX4_moveInto_2 rfl (fun H locs hW => ?_) ⟨Nat.zero_le _, Nat.zero_le _⟩
  refine lv_astore (lv' := [(5, .ref (zad G 3 d2)), (0, .ref (zad G 0 0)), (1, .ref (zad G 9 t2)), (2, .ref (zad G 3 d1)), (3, .ref (zad G 5 t1)), (4, .int (nI q))]) hx hb dX4_moveInto_5 hl (by decide) rfl (fun ls hl => ?_)
  refine lv_aload hx hb dX4_moveInto_7 (lv_at hl 0 rfl) ?_
  refine lv_ifnonnull (tgt := 15) hx hb dX4_moveInto_9 (by decide) ?_
  refine lv_aload hx hb dX4_moveInto_15 (lv_at hl 0 rfl) ?_
  refine lv_aload_n hx hb dX4_moveInto_17 rfl (lv_at hl 2 rfl) ?_
  refine z_callV (As := [.ref (zad G 9 t2)]) (rest := []) (st1 := [.int ((carC C d2 t2).1)]) hC hW (LL_3 nd.1) rfl rfl rfl (c_X1_carry l G C M nd.1 ht2 hI) mw_X1_carry mv_X1_carry mM_X4_170 ⟨Nat.le_of_ble_eq_true rfl, Nat.le_of_ble_eq_true rfl⟩ rfl rfl hl.1 (lv_room (Nat.le_of_ble_eq_true rfl)) dX4_moveInto_18 rfl (fun H locs hW => ?_) ⟨Nat.zero_le _, Nat.zero_le _⟩
  obtain ⟨C1, eC1⟩ : ∃ z, z = (carC C d2 t2).2 := ⟨_, rfl⟩
  rw [← eC1] at hW
  have hI1 : Iv C1 := by rw [eC1]; exact carC_I hI
  refine lv_istore (lv' := [(6, .int ((carC C d2 t2).1)), (5, .ref (zad G 3 d2)), (0, .ref (zad G 0 0)), (1, .ref (zad G 9 t2)), (2, .ref (zad G 3 d1)), (3, .ref (zad G 5 t1)), (4, .int (nI q))]) hx hb dX4_moveInto_21 hl (by decide) rfl (fun ls hl => ?_)
  have J : ∀ (u : Int32) (Cx : CS), mi1 C d1 t1 d2 t2 q = (u, Cx) → cM Cx d2 = some t2 → ∀ (H : Heap) (locs : List Loc) (ls : Array Slot), Wd G s A s.heap H locs Cx M → lv_has ls 7 [(0, .ref (zad G 0 0)), (1, .ref (zad G 9 t2)), (5, .ref (zad G 3 d2)), (6, .int u)] → W p l e { frames := 5, cells := 0, slots := 0, locals := 114 } s m args below meth c H locs 0 0 Q (F0 m 47 ls []) := by
    intro u Cx hQ hMx H locs ls hW hl
    refine lv_aload hx hb dX4_moveInto_47 (lv_at hl 2 rfl) ?_
    refine z_callV (As := []) (rest := []) (st1 := []) hC hW (LL_3 nd.1) rfl rfl rfl (c_X1_bringHome l G Cx M nd.1 ht2 hMx) mw_X1_bringHome mv_X1_bringHome mM_X4_177 ⟨Nat.le_of_ble_eq_true rfl, Nat.le_of_ble_eq_true rfl⟩ rfl rfl hl.1 (lv_room (Nat.le_of_ble_eq_true rfl)) dX4_moveInto_49 rfl (fun H locs hW => ?_) ⟨Nat.zero_le _, Nat.zero_le _⟩
    obtain ⟨C2, eC2⟩ : ∃ z, z = briC Cx d2 t2 := ⟨_, rfl⟩
    rw [← eC2] at hW
    refine lv_iload hx hb dX4_moveInto_52 (lv_at hl 3 rfl) ?_
    have hD2 : miC C d1 t1 t2 q = (u, C2) := by unfold miC; rw [hN]; show ((mi1 C d1 t1 d2 t2 q).1, briC (mi1 C d1 t1 d2 t2 q).2 d2 t2) = _; rw [hQ, eC2]
    rw [hD2] at hE
    exact hE hW rfl dX4_moveInto_54
  refine lv_iload hx hb dX4_moveInto_23 (lv_at hl 0 rfl) ?_
  refine lv_if_ne (tgt := 47) hx hb dX4_moveInto_25 (by decide) (fun h25 => ?_) (fun h25 => ?_)
  · exact J ((carC C d2 t2).1) C1 (by unfold mi1; rw [if_pos h25, eC1]) (by rw [eC1, carC_M, if_pos rfl]) _ _ _ hW (lv_sub hl [2, 3, 1, 0] rfl)
  · refine lv_aload_n hx hb dX4_moveInto_28 rfl (lv_at hl 2 rfl) ?_
    refine lv_aload_n hx hb dX4_moveInto_29 rfl (lv_at hl 4 rfl) ?_
    refine lv_aload_n hx hb dX4_moveInto_30 rfl (lv_at hl 5 rfl) ?_
    refine lv_iload hx hb dX4_moveInto_31 (lv_at hl 6 rfl) ?_
    refine lv_aload hx hb dX4_moveInto_33 (lv_at hl 1 rfl) ?_
    refine lv_aload_n hx hb dX4_moveInto_35 rfl (lv_at hl 3 rfl) ?_
    refine g9 (k := 1) (v := .ref (zad G 5 t2)) hC hW ht2 (by decide) mF_X4_117 rfl dX4_moveInto_36 ?_
    refine g5 (k := 3) (v := .int (nI (cN C1 5 t2 3))) hC hW (Or.inl ht2) (by decide) mF_X4_66 rfl dX4_moveInto_39 ?_
    refine z_callV (As := [.ref (zad G 3 d1), .ref (zad G 5 t1), .int (nI q), .ref (zad G 3 d2), .int (nI (cN C1 5 t2 3))]) (rest := []) (st1 := [.int ((mvC C1 d1 t1 d2 t2 q (cN C1 5 t2 3)).1)]) hC hW LL_0 rfl rfl rfl (c_X4_moveBlocks l G C1 M hd1 ht1 (by rw [eC1, carC_M, if_neg hdd]; exact hM1) nd.1 ht2 (by rw [eC1, carC_M, if_pos rfl]) hdd hI1 (q := q) (h := cN C1 5 t2 3) (by rw [eC1, carC_N3 d1 8 (Or.inl hdd), if_neg (fun z => hdd z.1)]; exact hp1) hq (by rw [eC1, carC_pos]; omega) (by have := hI1.1 t2; have := cap_le t2; omega)) mw_X4_moveBlocks mv_X4_moveBlocks mM_X4_207 ⟨Nat.le_of_ble_eq_true rfl, Nat.le_of_ble_eq_true rfl⟩ rfl rfl hl.1 (lv_room (Nat.le_of_ble_eq_true rfl)) dX4_moveInto_42 rfl (fun H locs hW => ?_) ⟨Nat.zero_le _, Nat.zero_le _⟩
    obtain ⟨C3, eC3⟩ : ∃ z, z = (mvC C1 d1 t1 d2 t2 q (cN C1 5 t2 3)).2 := ⟨_, rfl⟩
    rw [← eC3] at hW
    refine lv_istore (lv' := [(6, .int ((mvC C1 d1 t1 d2 t2 q (cN C1 5 t2 3)).1)), (5, .ref (zad G 3 d2)), (0, .ref (zad G 0 0)), (1, .ref (zad G 9 t2)), (2, .ref (zad G 3 d1)), (3, .ref (zad G 5 t1)), (4, .int (nI q))]) hx hb dX4_moveInto_45 hl (by decide) rfl (fun ls hl => ?_)
    exact J ((mvC C1 d1 t1 d2 t2 q (cN C1 5 t2 3)).1) C3 (by unfold mi1; rw [if_neg (fun q => q h25), ← eC1, eC3]) (by rw [eC3, mvC_M, eC1, carC_M, if_pos rfl]) _ _ _ hW (lv_sub hl [2, 3, 1, 0] rfl)

theorem c_X4_moveInto (l : Launch) (G : GG) (C : CS) (M : MS) {d1 t1 t2 : Nat} (hd1 : d1 < 3) (ht1 : t1 < zn G) (hM1 : cM C d1 = some t1) (ht2 : t2 < zn G) (hI : Iv C) (hT : ∀ d t, cM C d = some t → t < zn G) {q : Nat} (hp1 : cN C 3 d1 8 ≤ q) (hq : q < 100) : Ct l G yX4_moveInto cX4_moveInto 7 (some .int) 5 114 [.ref (zad G 0 0), .ref (zad G 9 t2), .ref (zad G 3 d1), .ref (zad G 5 t1), .int (nI q)] C M (some (.int (miC C d1 t1 t2 q).1)) (miC C d1 t1 t2 q).2 M := by
  cases hN : ndC C t2 with
  | none => exact c_X4_moveInto_n l G C M hd1 ht1 hM1 ht2 hI hT hp1 hq hN
  | some d => exact c_X4_moveInto_s l G C M hd1 ht1 hM1 ht2 hI hT hp1 hq hN

set_option maxHeartbeats 4000000 in
set_option maxRecDepth 100000 in
theorem c_X4_moveJob_n (l : Launch) (G : GG) (C : CS) (M : MS) {t1 t2 : Nat} (ht1 : t1 < zn G) (ht2 : t2 < zn G) (hI : Iv C) (hT : ∀ d t, cM C d = some t → t < zn G) {q : Nat} (hq : q < 100) (hN : ndC C t1 = none) : Ct l G yX4_moveJob cX4_moveJob 6 (some .int) 6 140 [.ref (zad G 0 0), .ref (zad G 9 t1), .int (nI q), .ref (zad G 9 t2)] C M (some (.int ((mjC C t1 q t2).1))) ((mjC C t1 q t2).2) M := by
  refine Ct_i (by decide) (Nat.le_of_ble_eq_true rfl) (fun {p e s m args below meth c A Q ls} hC hW hl hE => ?_)
  have hx := hC.1
  have hb := hC.2.1
  have hl : lv_has ls 6 [(0, .ref (zad G 0 0)), (1, .ref (zad G 9 t1)), (2, .int (nI q)), (3, .ref (zad G 9 t2))] := hl
  refine lv_aload_n hx hb dX4_moveJob_0 rfl (lv_at hl 0 rfl) ?_
  refine lv_aload_n hx hb dX4_moveJob_1 rfl (lv_at hl 1 rfl) ?_
  refine z_callV (As := [.ref (zad G 9 t1)]) (rest := []) (st1 := [.null]) hC hW LL_0 rfl rfl rfl (nd_n l G C M ht1 hI hT hN) mw_X4_nearestDrive mv_X4_nearestDrive mM_X4_166 ⟨Nat.le_of_ble_eq_true rfl, Nat.le_of_ble_eq_true rfl⟩ rfl rfl hl.1 (lv_room (Nat.le_of_ble_eq_true rfl)) dX4_moveJob_2 rfl (fun H locs hW => ?_) ⟨Nat.zero_le _, Nat.zero_le _⟩
  refine lv_astoreN (lv' := [(4, .null), (0, .ref (zad G 0 0)), (1, .ref (zad G 9 t1)), (2, .int (nI q)), (3, .ref (zad G 9 t2))]) hx hb dX4_moveJob_5 hl (by decide) rfl (fun ls hl => ?_)
  refine lv_aloadN hx hb dX4_moveJob_7 (lv_at hl 0 rfl) ?_
  refine lv_ifnonnullN hx hb dX4_moveJob_9 ?_
  refine lv_bipush (v := (-3)) hx hb dX4_moveJob_12 (by decide) ?_
  have hD2 : mjC C t1 q t2 = (-3, C) := by unfold mjC; rw [hN]
  rw [hD2] at hE
  exact hE hW rfl dX4_moveJob_14

set_option maxHeartbeats 4000000 in
set_option maxRecDepth 100000 in
theorem c_X4_moveJob_s (l : Launch) (G : GG) (C : CS) (M : MS) {t1 t2 : Nat} (ht1 : t1 < zn G) (ht2 : t2 < zn G) (hI : Iv C) (hT : ∀ d t, cM C d = some t → t < zn G) {q : Nat} (hq : q < 100) {d : Nat} (hN : ndC C t1 = some d) : Ct l G yX4_moveJob cX4_moveJob 6 (some .int) 6 140 [.ref (zad G 0 0), .ref (zad G 9 t1), .int (nI q), .ref (zad G 9 t2)] C M (some (.int ((mjC C t1 q t2).1))) ((mjC C t1 q t2).2) M := by
  refine Ct_i (by decide) (Nat.le_of_ble_eq_true rfl) (fun {p e s m args below meth c A Q ls} hC hW hl hE => ?_)
  have hx := hC.1
  have hb := hC.2.1
  have hl : lv_has ls 6 [(0, .ref (zad G 0 0)), (1, .ref (zad G 9 t1)), (2, .int (nI q)), (3, .ref (zad G 9 t2))] := hl
  have nd := nd_some hN
  refine lv_aload_n hx hb dX4_moveJob_0 rfl (lv_at hl 0 rfl) ?_
  refine lv_aload_n hx hb dX4_moveJob_1 rfl (lv_at hl 1 rfl) ?_
  refine z_callV (As := [.ref (zad G 9 t1)]) (rest := []) (st1 := [.ref (zad G 3 d)]) hC hW LL_0 rfl rfl rfl (nd_s l G C M ht1 hI hT hN) mw_X4_nearestDrive mv_X4_nearestDrive mM_X4_166 ⟨Nat.le_of_ble_eq_true rfl, Nat.le_of_ble_eq_true rfl⟩ rfl rfl hl.1 (lv_room (Nat.le_of_ble_eq_true rfl)) dX4_moveJob_2 rfl (fun H locs hW => ?_) ⟨Nat.zero_le _, Nat.zero_le _⟩
  refine lv_astore (lv' := [(4, .ref (zad G 3 d)), (0, .ref (zad G 0 0)), (1, .ref (zad G 9 t1)), (2, .int (nI q)), (3, .ref (zad G 9 t2))]) hx hb dX4_moveJob_5 hl (by decide) rfl (fun ls hl => ?_)
  refine lv_aload hx hb dX4_moveJob_7 (lv_at hl 0 rfl) ?_
  refine lv_ifnonnull (tgt := 15) hx hb dX4_moveJob_9 (by decide) ?_
  refine lv_aload hx hb dX4_moveJob_15 (lv_at hl 0 rfl) ?_
  refine lv_aload_n hx hb dX4_moveJob_17 rfl (lv_at hl 2 rfl) ?_
  refine z_callV (As := [.ref (zad G 9 t1)]) (rest := []) (st1 := [.int ((carC C d t1).1)]) hC hW (LL_3 nd.1) rfl rfl rfl (c_X1_carry l G C M nd.1 ht1 hI) mw_X1_carry mv_X1_carry mM_X4_170 ⟨Nat.le_of_ble_eq_true rfl, Nat.le_of_ble_eq_true rfl⟩ rfl rfl hl.1 (lv_room (Nat.le_of_ble_eq_true rfl)) dX4_moveJob_18 rfl (fun H locs hW => ?_) ⟨Nat.zero_le _, Nat.zero_le _⟩
  obtain ⟨C1, eC1⟩ : ∃ z, z = (carC C d t1).2 := ⟨_, rfl⟩
  rw [← eC1] at hW
  have hI1 : Iv C1 := by rw [eC1]; exact carC_I hI
  refine lv_istore (lv' := [(5, .int ((carC C d t1).1)), (4, .ref (zad G 3 d)), (0, .ref (zad G 0 0)), (1, .ref (zad G 9 t1)), (2, .int (nI q)), (3, .ref (zad G 9 t2))]) hx hb dX4_moveJob_21 hl (by decide) rfl (fun ls hl => ?_)
  have J : ∀ (u : Int32) (Cx : CS), mj1 C d t1 q t2 = (u, Cx) → cM Cx d = some t1 → Iv Cx → ∀ (H : Heap) (locs : List Loc) (ls : Array Slot), Wd G s A s.heap H locs Cx M → lv_has ls 6 [(0, .ref (zad G 0 0)), (1, .ref (zad G 9 t1)), (2, .int (nI q)), (3, .ref (zad G 9 t2)), (4, .ref (zad G 3 d)), (5, .int u)] → W p l e { frames := 6, cells := 0, slots := 0, locals := 140 } s m args below meth c H locs 0 0 Q (F0 m 42 ls []) := by
    intro u Cx hQ hMx hIx H locs ls hW hl
    refine lv_aload hx hb dX4_moveJob_42 (lv_at hl 4 rfl) ?_
    refine z_callV (As := []) (rest := []) (st1 := []) hC hW (LL_3 nd.1) rfl rfl rfl (c_X1_bringHome l G Cx M nd.1 ht1 hMx) mw_X1_bringHome mv_X1_bringHome mM_X4_177 ⟨Nat.le_of_ble_eq_true rfl, Nat.le_of_ble_eq_true rfl⟩ rfl rfl hl.1 (lv_room (Nat.le_of_ble_eq_true rfl)) dX4_moveJob_44 rfl (fun H locs hW => ?_) ⟨Nat.zero_le _, Nat.zero_le _⟩
    obtain ⟨C2, eC2⟩ : ∃ z, z = briC Cx d t1 := ⟨_, rfl⟩
    rw [← eC2] at hW
    refine lv_iload hx hb dX4_moveJob_47 (lv_at hl 5 rfl) ?_
    refine lv_if_lt (tgt := 63) hx hb dX4_moveJob_49 (by decide) (fun h49 => ?_) (fun h49 => ?_)
    · refine lv_iload hx hb dX4_moveJob_63 (lv_at hl 5 rfl) ?_
      have hD2 : mjC C t1 q t2 = (u, C2) := by unfold mjC; rw [hN]; show mjD C d t1 q t2 = _; unfold mjD; rw [hQ]; show (u, if u < 0 then briC Cx d t1 else _) = _; rw [if_pos h49, eC2]
      rw [hD2] at hE
      exact hE hW rfl dX4_moveJob_65
    · refine lv_aload_n hx hb dX4_moveJob_52 rfl (lv_at hl 3 rfl) ?_
      refine lv_iload hx hb dX4_moveJob_53 (lv_at hl 5 rfl) ?_
      obtain ⟨h, hh, hv⟩ := mj1_nn (d := d) (t1 := t1) (t2 := t2) (p := q) (C := C) (by rw [hQ]; exact h49)
      rw [hQ] at hv
      refine z_top (y := nI h) hv ?_
      refine z_callV (As := [.int (nI h)]) (rest := []) (st1 := []) hC hW (LL_9 ht2) rfl rfl rfl (c_X3_list l G C2 M ht2 (by rw [eC2]; exact briC_I hIx) (h := h) hh) mw_X3_list mv_X3_list mM_X4_180 ⟨Nat.le_of_ble_eq_true rfl, Nat.le_of_ble_eq_true rfl⟩ rfl rfl hl.1 (lv_room (Nat.le_of_ble_eq_true rfl)) dX4_moveJob_55 rfl (fun H locs hW => ?_) ⟨Nat.zero_le _, Nat.zero_le _⟩
      obtain ⟨C3, eC3⟩ : ∃ z, z = listC C2 t2 h := ⟨_, rfl⟩
      rw [← eC3] at hW
      refine lv_aload_n hx hb dX4_moveJob_58 rfl (lv_at hl 1 rfl) ?_
      refine lv_iload_n hx hb dX4_moveJob_59 rfl (lv_at hl 2 rfl) ?_
      refine z_callV (As := [.int (nI q)]) (rest := []) (st1 := []) hC hW (LL_9 ht1) rfl rfl rfl (c_X3_unlist_s l G C3 M ht1 (j := q) hq) mw_X3_unlist mv_X3_unlist mM_X4_204 ⟨Nat.le_of_ble_eq_true rfl, Nat.le_of_ble_eq_true rfl⟩ rfl rfl hl.1 (lv_room (Nat.le_of_ble_eq_true rfl)) dX4_moveJob_60 rfl (fun H locs hW => ?_) ⟨Nat.zero_le _, Nat.zero_le _⟩
      obtain ⟨C4, eC4⟩ : ∃ z, z = sB C3 11 t1 q 0 := ⟨_, rfl⟩
      rw [← eC4] at hW
      refine lv_iload hx hb dX4_moveJob_63 (lv_at hl 5 rfl) ?_
      have hD2 : mjC C t1 q t2 = (u, C4) := by unfold mjC; rw [hN]; show mjD C d t1 q t2 = _; unfold mjD; rw [hQ]; show (u, if u < 0 then briC Cx d t1 else sB (listC (briC Cx d t1) t2 u.toNatClampNeg) 11 t1 q 0) = _; rw [if_neg h49, show u.toNatClampNeg = h from by rw [show u = nI h from hv, cl_nI hh], eC4, eC3, eC2]
      rw [hD2] at hE
      exact hE hW rfl dX4_moveJob_65
  refine lv_iload hx hb dX4_moveJob_23 (lv_at hl 0 rfl) ?_
  refine lv_if_ne (tgt := 42) hx hb dX4_moveJob_25 (by decide) (fun h25 => ?_) (fun h25 => ?_)
  · exact J ((carC C d t1).1) C1 (by unfold mj1; rw [if_pos h25, eC1]) (by rw [eC1, carC_M, if_pos rfl]) (by rw [eC1]; exact carC_I hI) _ _ _ hW (lv_sub hl [2, 3, 4, 5, 1, 0] rfl)
  · refine lv_aload_n hx hb dX4_moveJob_28 rfl (lv_at hl 2 rfl) ?_
    refine lv_aload_n hx hb dX4_moveJob_29 rfl (lv_at hl 5 rfl) ?_
    refine lv_aload hx hb dX4_moveJob_30 (lv_at hl 1 rfl) ?_
    refine lv_aload_n hx hb dX4_moveJob_32 rfl (lv_at hl 3 rfl) ?_
    refine g9 (k := 1) (v := .ref (zad G 5 t1)) hC hW ht1 (by decide) mF_X4_117 rfl dX4_moveJob_33 ?_
    refine lv_iload_n hx hb dX4_moveJob_36 rfl (lv_at hl 4 rfl) ?_
    refine z_callV (As := [.ref (zad G 9 t2), .ref (zad G 3 d), .ref (zad G 5 t1), .int (nI q)]) (rest := []) (st1 := [.int ((miC C1 d t1 t2 q).1)]) hC hW LL_0 rfl rfl rfl (c_X4_moveInto l G C1 M nd.1 ht1 (by rw [eC1, carC_M, if_pos rfl]) ht2 hI1 (fun d' t' h' => by rw [eC1, carC_M] at h'; split at h'; (cases h'; exact ht1); exact hT _ _ h') (q := q) (by rw [eC1, carC_pos]; omega) hq) mw_X4_moveInto mv_X4_moveInto mM_X4_200 ⟨Nat.le_of_ble_eq_true rfl, Nat.le_of_ble_eq_true rfl⟩ rfl rfl hl.1 (lv_room (Nat.le_of_ble_eq_true rfl)) dX4_moveJob_37 rfl (fun H locs hW => ?_) ⟨Nat.zero_le _, Nat.zero_le _⟩
    obtain ⟨C5, eC5⟩ : ∃ z, z = (miC C1 d t1 t2 q).2 := ⟨_, rfl⟩
    rw [← eC5] at hW
    refine lv_istore (lv' := [(5, .int ((miC C1 d t1 t2 q).1)), (4, .ref (zad G 3 d)), (0, .ref (zad G 0 0)), (1, .ref (zad G 9 t1)), (2, .int (nI q)), (3, .ref (zad G 9 t2))]) hx hb dX4_moveJob_40 hl (by decide) rfl (fun ls hl => ?_)
    exact J ((miC C1 d t1 t2 q).1) C5 (by unfold mj1; rw [if_neg (fun q => q h25), ← eC1, eC5]) (by rw [eC5, miC_M, eC1, carC_M, if_pos rfl]) (by rw [eC5]; exact miC_I (by rw [eC1]; exact carC_I hI)) _ _ _ hW (lv_sub hl [2, 3, 4, 5, 1, 0] rfl)

theorem c_X4_moveJob (l : Launch) (G : GG) (C : CS) (M : MS) {t1 t2 : Nat} (ht1 : t1 < zn G) (ht2 : t2 < zn G) (hI : Iv C) (hT : ∀ d t, cM C d = some t → t < zn G) {q : Nat} (hq : q < 100) : Ct l G yX4_moveJob cX4_moveJob 6 (some .int) 6 140 [.ref (zad G 0 0), .ref (zad G 9 t1), .int (nI q), .ref (zad G 9 t2)] C M (some (.int (mjC C t1 q t2).1)) (mjC C t1 q t2).2 M := by
  cases hN : ndC C t1 with
  | none => exact c_X4_moveJob_n l G C M ht1 ht2 hI hT hq hN
  | some d => exact c_X4_moveJob_s l G C M ht1 ht2 hI hT hq hN

set_option maxHeartbeats 4000000 in
set_option maxRecDepth 100000 in
theorem c_X4_scanJob_n (l : Launch) (G : GG) (C : CS) (M : MS) {t : Nat} (ht : t < zn G) (hI : Iv C) (hT : ∀ d t, cM C d = some t → t < zn G) (hN : ndC C t = none) : Ct l G yX4_scanJob cX4_scanJob 4 (some .int) 5 108 [.ref (zad G 0 0), .ref (zad G 9 t)] C M (some (.int ((sjC C t).1))) ((sjC C t).2) M := by
  refine Ct_i (by decide) (Nat.le_of_ble_eq_true rfl) (fun {p e s m args below meth c A Q ls} hC hW hl hE => ?_)
  have hx := hC.1
  have hb := hC.2.1
  have hl : lv_has ls 4 [(0, .ref (zad G 0 0)), (1, .ref (zad G 9 t))] := hl
  refine lv_aload_n hx hb dX4_scanJob_0 rfl (lv_at hl 0 rfl) ?_
  refine lv_aload_n hx hb dX4_scanJob_1 rfl (lv_at hl 1 rfl) ?_
  refine z_callV (As := [.ref (zad G 9 t)]) (rest := []) (st1 := [.null]) hC hW LL_0 rfl rfl rfl (nd_n l G C M ht hI hT hN) mw_X4_nearestDrive mv_X4_nearestDrive mM_X4_166 ⟨Nat.le_of_ble_eq_true rfl, Nat.le_of_ble_eq_true rfl⟩ rfl rfl hl.1 (lv_room (Nat.le_of_ble_eq_true rfl)) dX4_scanJob_2 rfl (fun H locs hW => ?_) ⟨Nat.zero_le _, Nat.zero_le _⟩
  refine lv_astore_nN (lv' := [(2, .null), (0, .ref (zad G 0 0)), (1, .ref (zad G 9 t))]) hx hb dX4_scanJob_5 rfl hl (by decide) rfl (fun ls hl => ?_)
  refine lv_aload_nN hx hb dX4_scanJob_6 rfl (lv_at hl 0 rfl) ?_
  refine lv_ifnonnullN hx hb dX4_scanJob_7 ?_
  refine lv_bipush (v := (-3)) hx hb dX4_scanJob_10 (by decide) ?_
  have hD2 : sjC C t = (-3, C) := by unfold sjC; rw [hN]
  rw [hD2] at hE
  exact hE hW rfl dX4_scanJob_12

set_option maxHeartbeats 4000000 in
set_option maxRecDepth 100000 in
theorem c_X4_scanJob_s (l : Launch) (G : GG) (C : CS) (M : MS) {t : Nat} (ht : t < zn G) (hI : Iv C) (hT : ∀ d t, cM C d = some t → t < zn G) {d : Nat} (hN : ndC C t = some d) : Ct l G yX4_scanJob cX4_scanJob 4 (some .int) 5 108 [.ref (zad G 0 0), .ref (zad G 9 t)] C M (some (.int ((sjC C t).1))) ((sjC C t).2) M := by
  refine Ct_i (by decide) (Nat.le_of_ble_eq_true rfl) (fun {p e s m args below meth c A Q ls} hC hW hl hE => ?_)
  have hx := hC.1
  have hb := hC.2.1
  have hl : lv_has ls 4 [(0, .ref (zad G 0 0)), (1, .ref (zad G 9 t))] := hl
  have nd := nd_some hN
  refine lv_aload_n hx hb dX4_scanJob_0 rfl (lv_at hl 0 rfl) ?_
  refine lv_aload_n hx hb dX4_scanJob_1 rfl (lv_at hl 1 rfl) ?_
  refine z_callV (As := [.ref (zad G 9 t)]) (rest := []) (st1 := [.ref (zad G 3 d)]) hC hW LL_0 rfl rfl rfl (nd_s l G C M ht hI hT hN) mw_X4_nearestDrive mv_X4_nearestDrive mM_X4_166 ⟨Nat.le_of_ble_eq_true rfl, Nat.le_of_ble_eq_true rfl⟩ rfl rfl hl.1 (lv_room (Nat.le_of_ble_eq_true rfl)) dX4_scanJob_2 rfl (fun H locs hW => ?_) ⟨Nat.zero_le _, Nat.zero_le _⟩
  refine lv_astore_n (lv' := [(2, .ref (zad G 3 d)), (0, .ref (zad G 0 0)), (1, .ref (zad G 9 t))]) hx hb dX4_scanJob_5 rfl hl (by decide) rfl (fun ls hl => ?_)
  refine lv_aload_n hx hb dX4_scanJob_6 rfl (lv_at hl 0 rfl) ?_
  refine lv_ifnonnull (tgt := 13) hx hb dX4_scanJob_7 (by decide) ?_
  refine lv_aload_n hx hb dX4_scanJob_13 rfl (lv_at hl 0 rfl) ?_
  refine lv_aload_n hx hb dX4_scanJob_14 rfl (lv_at hl 2 rfl) ?_
  refine z_callV (As := [.ref (zad G 9 t)]) (rest := []) (st1 := [.int ((carC C d t).1)]) hC hW (LL_3 nd.1) rfl rfl rfl (c_X1_carry l G C M nd.1 ht hI) mw_X1_carry mv_X1_carry mM_X4_170 ⟨Nat.le_of_ble_eq_true rfl, Nat.le_of_ble_eq_true rfl⟩ rfl rfl hl.1 (lv_room (Nat.le_of_ble_eq_true rfl)) dX4_scanJob_15 rfl (fun H locs hW => ?_) ⟨Nat.zero_le _, Nat.zero_le _⟩
  obtain ⟨C1, eC1⟩ : ∃ z, z = (carC C d t).2 := ⟨_, rfl⟩
  rw [← eC1] at hW
  have hI1 : Iv C1 := by rw [eC1]; exact carC_I hI
  refine lv_istore_n (lv' := [(3, .int ((carC C d t).1)), (2, .ref (zad G 3 d)), (0, .ref (zad G 0 0)), (1, .ref (zad G 9 t))]) hx hb dX4_scanJob_18 rfl hl (by decide) rfl (fun ls hl => ?_)
  have J : ∀ (u : Int32) (Cx : CS), sj1 C d t = (u, Cx) → cM Cx d = some t → Iv Cx → ∀ (H : Heap) (locs : List Loc) (ls : Array Slot), Wd G s A s.heap H locs Cx M → lv_has ls 4 [(0, .ref (zad G 0 0)), (1, .ref (zad G 9 t)), (2, .ref (zad G 3 d)), (3, .int u)] → W p l e { frames := 5, cells := 0, slots := 0, locals := 108 } s m args below meth c H locs 0 0 Q (F0 m 28 ls []) := by
    intro u Cx hQ hMx hIx H locs ls hW hl
    refine lv_aload_n hx hb dX4_scanJob_28 rfl (lv_at hl 2 rfl) ?_
    refine z_callV (As := []) (rest := []) (st1 := []) hC hW (LL_3 nd.1) rfl rfl rfl (c_X1_bringHome l G Cx M nd.1 ht hMx) mw_X1_bringHome mv_X1_bringHome mM_X4_177 ⟨Nat.le_of_ble_eq_true rfl, Nat.le_of_ble_eq_true rfl⟩ rfl rfl hl.1 (lv_room (Nat.le_of_ble_eq_true rfl)) dX4_scanJob_29 rfl (fun H locs hW => ?_) ⟨Nat.zero_le _, Nat.zero_le _⟩
    obtain ⟨C2, eC2⟩ : ∃ z, z = briC Cx d t := ⟨_, rfl⟩
    rw [← eC2] at hW
    refine lv_iload_n hx hb dX4_scanJob_32 rfl (lv_at hl 3 rfl) ?_
    refine lv_if_ne (tgt := 43) hx hb dX4_scanJob_33 (by decide) (fun h33 => ?_) (fun h33 => ?_)
    · refine lv_iload_n hx hb dX4_scanJob_43 rfl (lv_at hl 3 rfl) ?_
      have hD2 : sjC C t = (u, C2) := by unfold sjC; rw [hN]; show sjD C d t = _; unfold sjD; rw [hQ, if_pos h33, eC2]
      rw [hD2] at hE
      exact hE hW rfl dX4_scanJob_44
    · refine lv_aload_n hx hb dX4_scanJob_36 rfl (lv_at hl 1 rfl) ?_
      refine z_callV (As := []) (rest := []) (st1 := [.int (nI (lcL (latC C2 t) t 100 0 0))]) hC hW (LL_9 ht) rfl rfl rfl (c_X3_listAllThatTell l G C2 M ht (by rw [eC2]; exact briC_I hIx)) mw_X3_listAllThatTell mv_X3_listAllThatTell mM_X4_214 ⟨Nat.le_of_ble_eq_true rfl, Nat.le_of_ble_eq_true rfl⟩ rfl rfl hl.1 (lv_room (Nat.le_of_ble_eq_true rfl)) dX4_scanJob_37 rfl (fun H locs hW => ?_) ⟨Nat.zero_le _, Nat.zero_le _⟩
      obtain ⟨C3, eC3⟩ : ∃ z, z = latC C2 t := ⟨_, rfl⟩
      rw [← eC3] at hW
      refine lv_goto (tgt := 44) hx hb dX4_scanJob_40 (by decide) ?_
      have hD2 : sjC C t = (nI (lcL (latC C2 t) t 100 0 0), C3) := by unfold sjC; rw [hN]; show sjD C d t = _; unfold sjD; rw [hQ, if_neg (fun q => q h33), eC3, eC2]
      rw [hD2] at hE
      exact hE hW rfl dX4_scanJob_44
  refine lv_iload_n hx hb dX4_scanJob_19 rfl (lv_at hl 0 rfl) ?_
  refine lv_if_ne (tgt := 28) hx hb dX4_scanJob_20 (by decide) (fun h20 => ?_) (fun h20 => ?_)
  · exact J ((carC C d t).1) C1 (by unfold sj1; rw [if_pos h20, eC1]) (by rw [eC1, carC_M, if_pos rfl]) (by rw [eC1]; exact carC_I hI) _ _ _ hW (lv_sub hl [2, 3, 1, 0] rfl)
  · refine lv_aload_n hx hb dX4_scanJob_23 rfl (lv_at hl 1 rfl) ?_
    refine z_callV (As := []) (rest := []) (st1 := [.int ((lookC C1 d t).1)]) hC hW (LL_3 nd.1) rfl rfl rfl (c_X1_lookThrough l G C1 M nd.1 ht (by rw [eC1, carC_M, if_pos rfl]) hI1 (by have := hI1.1 t; have := cap_le t; have : cN C1 3 d 8 = 0 := (by rw [eC1, carC_pos]); omega)) mw_X1_lookThrough mv_X1_lookThrough mM_X4_211 ⟨Nat.le_of_ble_eq_true rfl, Nat.le_of_ble_eq_true rfl⟩ rfl rfl hl.1 (lv_room (Nat.le_of_ble_eq_true rfl)) dX4_scanJob_24 rfl (fun H locs hW => ?_) ⟨Nat.zero_le _, Nat.zero_le _⟩
    obtain ⟨C4, eC4⟩ : ∃ z, z = (lookC C1 d t).2 := ⟨_, rfl⟩
    rw [← eC4] at hW
    refine lv_istore_n (lv' := [(3, .int ((lookC C1 d t).1)), (2, .ref (zad G 3 d)), (0, .ref (zad G 0 0)), (1, .ref (zad G 9 t))]) hx hb dX4_scanJob_27 rfl hl (by decide) rfl (fun ls hl => ?_)
    exact J ((lookC C1 d t).1) C4 (by unfold sj1; rw [if_neg (fun q => q h20), ← eC1, eC4]) (by rw [eC4]; unfold lookC; show cM (ltL _ _ _ _ _).2 d = _; rw [(Sm_lt _ _ _).2.2, eC1, carC_M, if_pos rfl]) (by rw [eC4]; exact (Sm_lt _ _ _).I (by rw [eC1]; exact carC_I hI)) _ _ _ hW (lv_sub hl [2, 3, 1, 0] rfl)

theorem c_X4_scanJob (l : Launch) (G : GG) (C : CS) (M : MS) {t : Nat} (ht : t < zn G) (hI : Iv C) (hT : ∀ d t, cM C d = some t → t < zn G) : Ct l G yX4_scanJob cX4_scanJob 4 (some .int) 5 108 [.ref (zad G 0 0), .ref (zad G 9 t)] C M (some (.int (sjC C t).1)) (sjC C t).2 M := by
  cases hN : ndC C t with
  | none => exact c_X4_scanJob_n l G C M ht hI hT hN
  | some d => exact c_X4_scanJob_s l G C M ht hI hT hN

