/-! ===== the class: its calls, second half ===== -/

set_option maxHeartbeats 4000000 in
set_option maxRecDepth 100000 in
theorem c_dam_b (l : Launch) (G : GG) (C : CS) (M : MS) (h12 : zn G ≤ 12) {x : Int32} (hbx : badT (zn G) x) (y z : Int32) : Ct l G yX4_damage cX4_damage 5 (some .int) 1 24 [.ref (zad G 0 0), .int x, .int y, .int z] C M (some (.int (-1))) C M := by
  refine Ct_i (by decide) (Nat.le_of_ble_eq_true rfl) (fun {p e s m args below meth c A Q ls} hC hW hl hE => ?_)
  have hx := hC.1
  have hb := hC.2.1
  have hl : lv_has ls 5 [(0, .ref (zad G 0 0)), (1, .int x), (2, .int y), (3, .int z)] := hl
  refine lv_aload_n hx hb dX4_damage_0 rfl (lv_at hl 0 rfl) ?_
  refine lv_iload_n hx hb dX4_damage_1 rfl (lv_at hl 1 rfl) ?_
  refine z_callV (As := [.int x]) (rest := []) (st1 := [.null]) hC hW LL_0 rfl rfl rfl (c_X4_findTape_n l G C M h12 (x := x) hbx) mw_X4_findTape mv_X4_findTape mM_X4_62 ⟨Nat.le_of_ble_eq_true rfl, Nat.le_of_ble_eq_true rfl⟩ rfl rfl hl.1 (lv_room (Nat.le_of_ble_eq_true rfl)) dX4_damage_2 rfl (fun H locs hW => ?_) ⟨Nat.zero_le _, Nat.zero_le _⟩
  refine lv_astoreN (lv' := [(4, .null), (0, .ref (zad G 0 0)), (1, .int x), (2, .int y), (3, .int z)]) hx hb dX4_damage_5 hl (by decide) rfl (fun ls hl => ?_)
  refine lv_aloadN hx hb dX4_damage_7 (lv_at hl 0 rfl) ?_
  refine lv_ifnullN (tgt := 32) hx hb dX4_damage_9 (by decide) ?_
  refine lv_iconst (v := (-1)) hx hb dX4_damage_32 (by decide) ?_
  have qr : ((-1) : Int32) = -1 := by simp [bI, cF_sF, cN_sN, cB_sB, cM_sM, cN_sF, cB_sF, cM_sF, cF_sN, cB_sN, cM_sN, cF_sB, cN_sB, cM_sB, cF_sM, cN_sM, cB_sM, mF_smF, mA_smF, mF_smA, mA_smA]
  exact hE hW qr dX4_damage_33

set_option maxHeartbeats 4000000 in
set_option maxRecDepth 100000 in
theorem c_dam_p (l : Launch) (G : GG) (C : CS) (M : MS) (h12 : zn G ≤ 12) {t : Nat} (ht : t < zn G) {y : Int32} (hp : ¬ placeP y) (z : Int32) : Ct l G yX4_damage cX4_damage 5 (some .int) 1 24 [.ref (zad G 0 0), .int (nI t), .int y, .int z] C M (some (.int (-1))) C M := by
  refine Ct_i (by decide) (Nat.le_of_ble_eq_true rfl) (fun {p e s m args below meth c A Q ls} hC hW hl hE => ?_)
  have hx := hC.1
  have hb := hC.2.1
  have hl : lv_has ls 5 [(0, .ref (zad G 0 0)), (1, .int (nI t)), (2, .int y), (3, .int z)] := hl
  refine lv_aload_n hx hb dX4_damage_0 rfl (lv_at hl 0 rfl) ?_
  refine lv_iload_n hx hb dX4_damage_1 rfl (lv_at hl 1 rfl) ?_
  refine z_callV (As := [.int (nI t)]) (rest := []) (st1 := [.ref (zad G 9 t)]) hC hW LL_0 rfl rfl rfl (c_X4_findTape l G C M h12 (t := t) ht) mw_X4_findTape mv_X4_findTape mM_X4_62 ⟨Nat.le_of_ble_eq_true rfl, Nat.le_of_ble_eq_true rfl⟩ rfl rfl hl.1 (lv_room (Nat.le_of_ble_eq_true rfl)) dX4_damage_2 rfl (fun H locs hW => ?_) ⟨Nat.zero_le _, Nat.zero_le _⟩
  refine lv_astore (lv' := [(4, .ref (zad G 9 t)), (0, .ref (zad G 0 0)), (1, .int (nI t)), (2, .int y), (3, .int z)]) hx hb dX4_damage_5 hl (by decide) rfl (fun ls hl => ?_)
  refine lv_aload hx hb dX4_damage_7 (lv_at hl 0 rfl) ?_
  refine lv_ifnull hx hb dX4_damage_9 ?_
  refine lv_iload_n hx hb dX4_damage_12 rfl (lv_at hl 3 rfl) ?_
  refine z_callS (rest := []) (st1 := [.int (bI (placeP y))]) hC hW (c_X4_isPlace l G C M y) mw_X4_isPlace mT_X4_isPlace mM_X4_95 ⟨Nat.le_of_ble_eq_true rfl, Nat.le_of_ble_eq_true rfl⟩ rfl rfl hl.1 (lv_room (Nat.le_of_ble_eq_true rfl)) dX4_damage_13 rfl (fun H locs hW => ?_) ⟨Nat.zero_le _, Nat.zero_le _⟩
  refine zb_eq (tgt := 32) hx hb (placeP y) rfl dX4_damage_16 (by decide) (fun h16 => ?_) (fun h16 => ?_)
  · refine lv_iconst (v := (-1)) hx hb dX4_damage_32 (by decide) ?_
    have qr : ((-1) : Int32) = -1 := by simp [bI, h16, cF_sF, cN_sN, cB_sB, cM_sM, cN_sF, cB_sF, cM_sF, cF_sN, cB_sN, cM_sN, cF_sB, cN_sB, cM_sB, cF_sM, cN_sM, cB_sM, mF_smF, mA_smF, mF_smA, mA_smA]
    exact hE hW qr dX4_damage_33
  · exact absurd h16 hp

set_option maxHeartbeats 4000000 in
set_option maxRecDepth 100000 in
theorem c_dam_n (l : Launch) (G : GG) (C : CS) (M : MS) (h12 : zn G ≤ 12) {t a : Nat} (ht : t < zn G) (ha : a < 100) (hp : placeP (nI a)) (z : Int32) (hz : z < 1 ∨ nI (100 - a) < z) : Ct l G yX4_damage cX4_damage 5 (some .int) 1 24 [.ref (zad G 0 0), .int (nI t), .int (nI a), .int z] C M (some (.int (-1))) C M := by
  refine Ct_i (by decide) (Nat.le_of_ble_eq_true rfl) (fun {p e s m args below meth c A Q ls} hC hW hl hE => ?_)
  have hx := hC.1
  have hb := hC.2.1
  have hl : lv_has ls 5 [(0, .ref (zad G 0 0)), (1, .int (nI t)), (2, .int (nI a)), (3, .int z)] := hl
  refine lv_aload_n hx hb dX4_damage_0 rfl (lv_at hl 0 rfl) ?_
  refine lv_iload_n hx hb dX4_damage_1 rfl (lv_at hl 1 rfl) ?_
  refine z_callV (As := [.int (nI t)]) (rest := []) (st1 := [.ref (zad G 9 t)]) hC hW LL_0 rfl rfl rfl (c_X4_findTape l G C M h12 (t := t) ht) mw_X4_findTape mv_X4_findTape mM_X4_62 ⟨Nat.le_of_ble_eq_true rfl, Nat.le_of_ble_eq_true rfl⟩ rfl rfl hl.1 (lv_room (Nat.le_of_ble_eq_true rfl)) dX4_damage_2 rfl (fun H locs hW => ?_) ⟨Nat.zero_le _, Nat.zero_le _⟩
  refine lv_astore (lv' := [(4, .ref (zad G 9 t)), (0, .ref (zad G 0 0)), (1, .int (nI t)), (2, .int (nI a)), (3, .int z)]) hx hb dX4_damage_5 hl (by decide) rfl (fun ls hl => ?_)
  refine lv_aload hx hb dX4_damage_7 (lv_at hl 0 rfl) ?_
  refine lv_ifnull hx hb dX4_damage_9 ?_
  refine lv_iload_n hx hb dX4_damage_12 rfl (lv_at hl 3 rfl) ?_
  refine z_callS (rest := []) (st1 := [.int (bI (placeP (nI a)))]) hC hW (c_X4_isPlace l G C M (nI a)) mw_X4_isPlace mT_X4_isPlace mM_X4_95 ⟨Nat.le_of_ble_eq_true rfl, Nat.le_of_ble_eq_true rfl⟩ rfl rfl hl.1 (lv_room (Nat.le_of_ble_eq_true rfl)) dX4_damage_13 rfl (fun H locs hW => ?_) ⟨Nat.zero_le _, Nat.zero_le _⟩
  refine zb_eq (tgt := 32) hx hb (placeP (nI a)) rfl dX4_damage_16 (by decide) (fun h16 => ?_) (fun h16 => ?_)
  · exact absurd hp h16
  · refine lv_iload_n hx hb dX4_damage_19 rfl (lv_at hl 4 rfl) ?_
    refine lv_iconst (v := 1) hx hb dX4_damage_20 (by decide) ?_
    refine lv_icmp_lt (tgt := 32) hx hb dX4_damage_21 (by decide) (fun h21 => ?_) (fun h21 => ?_)
    · refine lv_iconst (v := (-1)) hx hb dX4_damage_32 (by decide) ?_
      have qr : ((-1) : Int32) = -1 := by simp [bI, h16, h21, cF_sF, cN_sN, cB_sB, cM_sM, cN_sF, cB_sF, cM_sF, cF_sN, cB_sN, cM_sN, cF_sB, cN_sB, cM_sB, cF_sM, cN_sM, cB_sM, mF_smF, mA_smF, mF_smA, mA_smA]
      exact hE hW qr dX4_damage_33
    · refine lv_iload_n hx hb dX4_damage_24 rfl (lv_at hl 4 rfl) ?_
      refine lv_bipush (v := 100) hx hb dX4_damage_25 (by decide) ?_
      refine lv_iload_n hx hb dX4_damage_27 rfl (lv_at hl 3 rfl) ?_
      refine zi_sub (i := 100) (j := a) hx hb rfl rfl (by omega) dX4_damage_28 ?_
      refine lv_icmp_le (tgt := 34) hx hb dX4_damage_29 (by decide) (fun h29 => ?_) (fun h29 => ?_)
      · exact absurd h29 (hz.elim (fun q => absurd q h21) (fun q => Int32.not_le.mpr q))
      · refine lv_iconst (v := (-1)) hx hb dX4_damage_32 (by decide) ?_
        have qr : ((-1) : Int32) = -1 := by simp [bI, h16, h21, h29, cF_sF, cN_sN, cB_sB, cM_sM, cN_sF, cB_sF, cM_sF, cF_sN, cB_sN, cM_sN, cF_sB, cN_sB, cM_sB, cF_sM, cN_sM, cB_sM, mF_smF, mA_smF, mF_smA, mA_smA]
        exact hE hW qr dX4_damage_33

set_option maxHeartbeats 4000000 in
set_option maxRecDepth 100000 in
theorem c_dam_1 (l : Launch) (G : GG) (C : CS) (M : MS) (h12 : zn G ≤ 12) {t a n : Nat} (ht : t < zn G) (ha : a < 100) (hp : placeP (nI a)) (h1 : 1 ≤ n) (h2 : n ≤ 100 - a) : Ct l G yX4_damage cX4_damage 5 (some .int) 1 24 [.ref (zad G 0 0), .int (nI t), .int (nI a), .int (nI n)] C M (some (.int (nI (spL t n a 0 C).1))) ((spL t n a 0 C).2) M := by
  refine Ct_i (by decide) (Nat.le_of_ble_eq_true rfl) (fun {p e s m args below meth c A Q ls} hC hW hl hE => ?_)
  have hx := hC.1
  have hb := hC.2.1
  have hl : lv_has ls 5 [(0, .ref (zad G 0 0)), (1, .int (nI t)), (2, .int (nI a)), (3, .int (nI n))] := hl
  refine lv_aload_n hx hb dX4_damage_0 rfl (lv_at hl 0 rfl) ?_
  refine lv_iload_n hx hb dX4_damage_1 rfl (lv_at hl 1 rfl) ?_
  refine z_callV (As := [.int (nI t)]) (rest := []) (st1 := [.ref (zad G 9 t)]) hC hW LL_0 rfl rfl rfl (c_X4_findTape l G C M h12 (t := t) ht) mw_X4_findTape mv_X4_findTape mM_X4_62 ⟨Nat.le_of_ble_eq_true rfl, Nat.le_of_ble_eq_true rfl⟩ rfl rfl hl.1 (lv_room (Nat.le_of_ble_eq_true rfl)) dX4_damage_2 rfl (fun H locs hW => ?_) ⟨Nat.zero_le _, Nat.zero_le _⟩
  refine lv_astore (lv' := [(4, .ref (zad G 9 t)), (0, .ref (zad G 0 0)), (1, .int (nI t)), (2, .int (nI a)), (3, .int (nI n))]) hx hb dX4_damage_5 hl (by decide) rfl (fun ls hl => ?_)
  refine lv_aload hx hb dX4_damage_7 (lv_at hl 0 rfl) ?_
  refine lv_ifnull hx hb dX4_damage_9 ?_
  refine lv_iload_n hx hb dX4_damage_12 rfl (lv_at hl 3 rfl) ?_
  refine z_callS (rest := []) (st1 := [.int (bI (placeP (nI a)))]) hC hW (c_X4_isPlace l G C M (nI a)) mw_X4_isPlace mT_X4_isPlace mM_X4_95 ⟨Nat.le_of_ble_eq_true rfl, Nat.le_of_ble_eq_true rfl⟩ rfl rfl hl.1 (lv_room (Nat.le_of_ble_eq_true rfl)) dX4_damage_13 rfl (fun H locs hW => ?_) ⟨Nat.zero_le _, Nat.zero_le _⟩
  refine zb_eq (tgt := 32) hx hb (placeP (nI a)) rfl dX4_damage_16 (by decide) (fun h16 => ?_) (fun h16 => ?_)
  · exact absurd hp h16
  · refine lv_iload_n hx hb dX4_damage_19 rfl (lv_at hl 4 rfl) ?_
    refine lv_iconst (v := 1) hx hb dX4_damage_20 (by decide) ?_
    refine zc_lt (i := n) (j := 1) (tgt := 32) hx hb rfl rfl (by omega) (by omega) dX4_damage_21 (by decide) (fun h21 => ?_) (fun h21 => ?_)
    · exact absurd h21 (by omega)
    · refine lv_iload_n hx hb dX4_damage_24 rfl (lv_at hl 4 rfl) ?_
      refine lv_bipush (v := 100) hx hb dX4_damage_25 (by decide) ?_
      refine lv_iload_n hx hb dX4_damage_27 rfl (lv_at hl 3 rfl) ?_
      refine zi_sub (i := 100) (j := a) hx hb rfl rfl (by omega) dX4_damage_28 ?_
      refine zc_le (i := n) (j := 100 - a) (tgt := 34) hx hb rfl rfl (by omega) (by omega) dX4_damage_29 (by decide) (fun h29 => ?_) (fun h29 => ?_)
      · refine lv_aload hx hb dX4_damage_34 (lv_at hl 0 rfl) ?_
        refine lv_iload_n hx hb dX4_damage_36 rfl (lv_at hl 3 rfl) ?_
        refine lv_iload_n hx hb dX4_damage_37 rfl (lv_at hl 4 rfl) ?_
        refine z_callV (As := [.int (nI a), .int (nI n)]) (rest := []) (st1 := [.int (nI ((spL t n a 0 C).1))]) hC hW (LL_9 ht) rfl rfl rfl (c_X3_spoil l G C M ht (a := a) (n := n) (by omega)) mw_X3_spoil mv_X3_spoil mM_X4_98 ⟨Nat.le_of_ble_eq_true rfl, Nat.le_of_ble_eq_true rfl⟩ rfl rfl hl.1 (lv_room (Nat.le_of_ble_eq_true rfl)) dX4_damage_38 rfl (fun H locs hW => ?_) ⟨Nat.zero_le _, Nat.zero_le _⟩
        obtain ⟨C1, eC1⟩ : ∃ z, z = (spL t n a 0 C).2 := ⟨_, rfl⟩
        rw [← eC1] at hW
        rw [eC1] at hW
        exact hE hW rfl dX4_damage_41
      · exact absurd h29 (by omega)

theorem c_X4_damage (l : Launch) (G : GG) (C : CS) (M : MS) (h12 : zn G ≤ 12) (x y z : Int32) : Ct l G yX4_damage cX4_damage 5 (some .int) 1 24 [.ref (zad G 0 0), .int x, .int y, .int z] C M (some (.int (damT (zn G) C x y z).1)) (damT (zn G) C x y z).2 M := by
  unfold damT
  rcases tape_cases h12 x with hb | ⟨t, ht, rfl, hb, htx⟩
  · rw [if_pos hb]; exact c_dam_b l G C M h12 hb y z
  · rw [if_neg hb, htx]
    by_cases hp : placeP y
    · rw [if_pos hp]
      obtain ⟨a, ha, rfl, hax⟩ := place_arg hp
      rw [hax]
      by_cases hz : z < 1 ∨ nI (100 - a) < z
      · rw [if_pos hz]; exact c_dam_n l G C M h12 ht ha hp z hz
      · rw [if_neg hz]
        rcases pk_ix z (n := 101) (by decide) with q | q | ⟨n, hn, rfl⟩
        · exact absurd (Or.inl (Int32.lt_trans q (by decide))) hz
        · exact absurd (Or.inr (Int32.lt_of_lt_of_le ((nI_ltI (a := 100 - a) (b := 101) (by omega) (by omega)).mpr (by omega)) q)) hz
        · have h1 : 1 ≤ n := by
            refine Nat.pos_of_ne_zero (fun q => hz (Or.inl ?_)); subst q; decide
          have h2 : n ≤ 100 - a := by
            refine Nat.le_of_not_lt (fun q => hz (Or.inr ((nI_ltI (by omega) (by omega)).mpr q)))
          rw [tN_nI (show n < 2 ^ 31 by omega)]
          exact c_dam_1 l G C M h12 ht ha hp h1 h2
    · rw [if_neg hp]; exact c_dam_p l G C M h12 ht hp z

set_option maxHeartbeats 4000000 in
set_option maxRecDepth 100000 in
theorem c_jam_b (l : Launch) (G : GG) (C : CS) (M : MS) {x : Int32} (hbx : badT 3 x) (z : Int32) : Ct l G yX4_jam cX4_jam 4 (some .int) 1 21 [.ref (zad G 0 0), .int x, .int z] C M (some (.int (-1))) C M := by
  refine Ct_i (by decide) (Nat.le_of_ble_eq_true rfl) (fun {p e s m args below meth c A Q ls} hC hW hl hE => ?_)
  have hx := hC.1
  have hb := hC.2.1
  have hl : lv_has ls 4 [(0, .ref (zad G 0 0)), (1, .int x), (2, .int z)] := hl
  refine lv_aload_n hx hb dX4_jam_0 rfl (lv_at hl 0 rfl) ?_
  refine lv_iload_n hx hb dX4_jam_1 rfl (lv_at hl 1 rfl) ?_
  refine z_callV (As := [.int x]) (rest := []) (st1 := [.null]) hC hW LL_0 rfl rfl rfl (c_X4_findDrive_n l G C M (x := x) hbx) mw_X4_findDrive mv_X4_findDrive mM_X4_102 ⟨Nat.le_of_ble_eq_true rfl, Nat.le_of_ble_eq_true rfl⟩ rfl rfl hl.1 (lv_room (Nat.le_of_ble_eq_true rfl)) dX4_jam_2 rfl (fun H locs hW => ?_) ⟨Nat.zero_le _, Nat.zero_le _⟩
  refine lv_astore_nN (lv' := [(3, .null), (0, .ref (zad G 0 0)), (1, .int x), (2, .int z)]) hx hb dX4_jam_5 rfl hl (by decide) rfl (fun ls hl => ?_)
  refine lv_aload_nN hx hb dX4_jam_6 rfl (lv_at hl 0 rfl) ?_
  refine lv_ifnullN (tgt := 29) hx hb dX4_jam_7 (by decide) ?_
  refine lv_iconst (v := (-1)) hx hb dX4_jam_29 (by decide) ?_
  have qr : ((-1) : Int32) = -1 := by simp [bI, cF_sF, cN_sN, cB_sB, cM_sM, cN_sF, cB_sF, cM_sF, cF_sN, cB_sN, cM_sN, cF_sB, cN_sB, cM_sB, cF_sM, cN_sM, cB_sM, mF_smF, mA_smF, mF_smA, mA_smA]
  exact hE hW qr dX4_jam_30

set_option maxHeartbeats 4000000 in
set_option maxRecDepth 100000 in
theorem c_jam_1 (l : Launch) (G : GG) (C : CS) (M : MS) {d : Nat} (hd : d < 3) (z : Int32) : Ct l G yX4_jam cX4_jam 4 (some .int) 1 21 [.ref (zad G 0 0), .int (nI d), .int z] C M (some (.int ((jamC C d z).1))) ((jamC C d z).2) M := by
  refine Ct_i (by decide) (Nat.le_of_ble_eq_true rfl) (fun {p e s m args below meth c A Q ls} hC hW hl hE => ?_)
  have hx := hC.1
  have hb := hC.2.1
  have hl : lv_has ls 4 [(0, .ref (zad G 0 0)), (1, .int (nI d)), (2, .int z)] := hl
  refine lv_aload_n hx hb dX4_jam_0 rfl (lv_at hl 0 rfl) ?_
  refine lv_iload_n hx hb dX4_jam_1 rfl (lv_at hl 1 rfl) ?_
  refine z_callV (As := [.int (nI d)]) (rest := []) (st1 := [.ref (zad G 3 d)]) hC hW LL_0 rfl rfl rfl (c_X4_findDrive l G C M (d := d) hd) mw_X4_findDrive mv_X4_findDrive mM_X4_102 ⟨Nat.le_of_ble_eq_true rfl, Nat.le_of_ble_eq_true rfl⟩ rfl rfl hl.1 (lv_room (Nat.le_of_ble_eq_true rfl)) dX4_jam_2 rfl (fun H locs hW => ?_) ⟨Nat.zero_le _, Nat.zero_le _⟩
  refine lv_astore_n (lv' := [(3, .ref (zad G 3 d)), (0, .ref (zad G 0 0)), (1, .int (nI d)), (2, .int z)]) hx hb dX4_jam_5 rfl hl (by decide) rfl (fun ls hl => ?_)
  refine lv_aload_n hx hb dX4_jam_6 rfl (lv_at hl 0 rfl) ?_
  refine lv_ifnull hx hb dX4_jam_7 ?_
  refine lv_aload_n hx hb dX4_jam_10 rfl (lv_at hl 0 rfl) ?_
  refine g3 (k := 4) (v := .int (cF C 3 d 4)) hC hW hd (by decide) mF_X4_106 rfl dX4_jam_11 ?_
  refine lv_if_ne (tgt := 29) hx hb dX4_jam_14 (by decide) (fun h14 => ?_) (fun h14 => ?_)
  · refine lv_iconst (v := (-1)) hx hb dX4_jam_29 (by decide) ?_
    have qC : C = (jamC C d z).2 := by simp [jamC, h14]
    rw [qC] at hW
    have qr : ((-1) : Int32) = (jamC C d z).1 := by simp [jamC, h14]
    exact hE hW qr dX4_jam_30
  · refine lv_iload_n hx hb dX4_jam_17 rfl (lv_at hl 3 rfl) ?_
    refine lv_iconst (v := (-1)) hx hb dX4_jam_18 (by decide) ?_
    refine lv_icmp_lt (tgt := 29) hx hb dX4_jam_19 (by decide) (fun h19 => ?_) (fun h19 => ?_)
    · refine lv_iconst (v := (-1)) hx hb dX4_jam_29 (by decide) ?_
      have qC : C = (jamC C d z).2 := by simp [jamC, h14, h19]
      rw [qC] at hW
      have qr : ((-1) : Int32) = (jamC C d z).1 := by simp [jamC, h14, h19]
      exact hE hW qr dX4_jam_30
    · refine lv_iload_n hx hb dX4_jam_22 rfl (lv_at hl 3 rfl) ?_
      refine lv_sipush (v := 1000) hx hb dX4_jam_23 (by decide) ?_
      refine lv_icmp_le (tgt := 31) hx hb dX4_jam_26 (by decide) (fun h26 => ?_) (fun h26 => ?_)
      · refine lv_aload_n hx hb dX4_jam_31 rfl (lv_at hl 0 rfl) ?_
        refine lv_iload_n hx hb dX4_jam_32 rfl (lv_at hl 3 rfl) ?_
        refine p3F (k := 5) (v := z) hC hW hd (by decide) mF_X4_110 dX4_jam_33 (fun _ eS H locs hW => ?_)
        subst eS
        refine lv_iload_n hx hb dX4_jam_36 rfl (lv_at hl 3 rfl) ?_
        have qC : sF C 3 d 5 z = (jamC C d z).2 := by simp [jamC, h14, h19, h26]
        rw [qC] at hW
        have qr : (z : Int32) = (jamC C d z).1 := by simp [jamC, h14, h19, h26]
        exact hE hW qr dX4_jam_37
      · refine lv_iconst (v := (-1)) hx hb dX4_jam_29 (by decide) ?_
        have qC : C = (jamC C d z).2 := by simp [jamC, h14, h19, h26]
        rw [qC] at hW
        have qr : ((-1) : Int32) = (jamC C d z).1 := by simp [jamC, h14, h19, h26]
        exact hE hW qr dX4_jam_30

theorem drive_cases (x : Int32) : badT 3 x ∨ ∃ d, d < 3 ∧ x = nI d ∧ ¬ badT 3 x ∧ tN x = d := tape_cases (by decide) x
theorem c_X4_jam (l : Launch) (G : GG) (C : CS) (M : MS) (x z : Int32) : Ct l G yX4_jam cX4_jam 4 (some .int) 1 21 [.ref (zad G 0 0), .int x, .int z] C M (some (.int (jamT C x z).1)) (jamT C x z).2 M := by
  unfold jamT
  rcases drive_cases x with hb | ⟨d, hd, rfl, hb, hdx⟩
  · rw [if_pos hb]; exact c_jam_b l G C M hb z
  · rw [if_neg hb, hdx]; exact c_jam_1 l G C M hd z

set_option maxHeartbeats 4000000 in
set_option maxRecDepth 100000 in
theorem c_fix_b (l : Launch) (G : GG) (C : CS) (M : MS) {x : Int32} (hbx : badT 3 x) : Ct l G yX4_fix cX4_fix 4 (some .int) 1 21 [.ref (zad G 0 0), .int x] C M (some (.int (-1))) C M := by
  refine Ct_i (by decide) (Nat.le_of_ble_eq_true rfl) (fun {p e s m args below meth c A Q ls} hC hW hl hE => ?_)
  have hx := hC.1
  have hb := hC.2.1
  have hl : lv_has ls 4 [(0, .ref (zad G 0 0)), (1, .int x)] := hl
  refine lv_aload_n hx hb dX4_fix_0 rfl (lv_at hl 0 rfl) ?_
  refine lv_iload_n hx hb dX4_fix_1 rfl (lv_at hl 1 rfl) ?_
  refine z_callV (As := [.int x]) (rest := []) (st1 := [.null]) hC hW LL_0 rfl rfl rfl (c_X4_findDrive_n l G C M (x := x) hbx) mw_X4_findDrive mv_X4_findDrive mM_X4_102 ⟨Nat.le_of_ble_eq_true rfl, Nat.le_of_ble_eq_true rfl⟩ rfl rfl hl.1 (lv_room (Nat.le_of_ble_eq_true rfl)) dX4_fix_2 rfl (fun H locs hW => ?_) ⟨Nat.zero_le _, Nat.zero_le _⟩
  refine lv_astore_nN (lv' := [(2, .null), (0, .ref (zad G 0 0)), (1, .int x)]) hx hb dX4_fix_5 rfl hl (by decide) rfl (fun ls hl => ?_)
  refine lv_aload_nN hx hb dX4_fix_6 rfl (lv_at hl 0 rfl) ?_
  refine lv_ifnonnullN hx hb dX4_fix_7 ?_
  refine lv_iconst (v := (-1)) hx hb dX4_fix_10 (by decide) ?_
  have qr : ((-1) : Int32) = -1 := by simp [bI, cF_sF, cN_sN, cB_sB, cM_sM, cN_sF, cB_sF, cM_sF, cF_sN, cB_sN, cM_sN, cF_sB, cN_sB, cM_sB, cF_sM, cN_sM, cB_sM, mF_smF, mA_smF, mF_smA, mA_smA]
  exact hE hW qr dX4_fix_11

set_option maxHeartbeats 4000000 in
set_option maxRecDepth 100000 in
theorem c_fix_1 (l : Launch) (G : GG) (C : CS) (M : MS) {d : Nat} (hd : d < 3) : Ct l G yX4_fix cX4_fix 4 (some .int) 1 21 [.ref (zad G 0 0), .int (nI d)] C M (some (.int (if cF C 3 d 4 = 0 then 0 else 1))) (sF (sF C 3 d 4 0) 3 d 5 (-1)) M := by
  refine Ct_i (by decide) (Nat.le_of_ble_eq_true rfl) (fun {p e s m args below meth c A Q ls} hC hW hl hE => ?_)
  have hx := hC.1
  have hb := hC.2.1
  have hl : lv_has ls 4 [(0, .ref (zad G 0 0)), (1, .int (nI d))] := hl
  refine lv_aload_n hx hb dX4_fix_0 rfl (lv_at hl 0 rfl) ?_
  refine lv_iload_n hx hb dX4_fix_1 rfl (lv_at hl 1 rfl) ?_
  refine z_callV (As := [.int (nI d)]) (rest := []) (st1 := [.ref (zad G 3 d)]) hC hW LL_0 rfl rfl rfl (c_X4_findDrive l G C M (d := d) hd) mw_X4_findDrive mv_X4_findDrive mM_X4_102 ⟨Nat.le_of_ble_eq_true rfl, Nat.le_of_ble_eq_true rfl⟩ rfl rfl hl.1 (lv_room (Nat.le_of_ble_eq_true rfl)) dX4_fix_2 rfl (fun H locs hW => ?_) ⟨Nat.zero_le _, Nat.zero_le _⟩
  refine lv_astore_n (lv' := [(2, .ref (zad G 3 d)), (0, .ref (zad G 0 0)), (1, .int (nI d))]) hx hb dX4_fix_5 rfl hl (by decide) rfl (fun ls hl => ?_)
  refine lv_aload_n hx hb dX4_fix_6 rfl (lv_at hl 0 rfl) ?_
  refine lv_ifnonnull (tgt := 12) hx hb dX4_fix_7 (by decide) ?_
  refine lv_aload_n hx hb dX4_fix_12 rfl (lv_at hl 0 rfl) ?_
  refine g3 (k := 4) (v := .int (cF C 3 d 4)) hC hW hd (by decide) mF_X4_106 rfl dX4_fix_13 ?_
  refine lv_if_eq (tgt := 23) hx hb dX4_fix_16 (by decide) (fun h16 => ?_) (fun h16 => ?_)
  · refine lv_iconst (v := 0) hx hb dX4_fix_23 (by decide) ?_
    refine lv_istore_n (lv' := [(3, .int 0), (2, .ref (zad G 3 d)), (0, .ref (zad G 0 0)), (1, .int (nI d))]) hx hb dX4_fix_24 rfl hl (by decide) rfl (fun ls hl => ?_)
    refine lv_aload_n hx hb dX4_fix_25 rfl (lv_at hl 1 rfl) ?_
    refine lv_iconst (v := 0) hx hb dX4_fix_26 (by decide) ?_
    refine p3J (v := 0) hC hW hd (by decide) mF_X4_106 dX4_fix_27 (fun _ eS H locs hW => ?_)
    subst eS
    refine lv_aload_n hx hb dX4_fix_30 rfl (lv_at hl 1 rfl) ?_
    refine lv_iconst (v := (-1)) hx hb dX4_fix_31 (by decide) ?_
    refine p3F (k := 5) (v := (-1)) hC hW hd (by decide) mF_X4_110 dX4_fix_32 (fun _ eS H locs hW => ?_)
    subst eS
    refine lv_iload_n hx hb dX4_fix_35 rfl (lv_at hl 0 rfl) ?_
    have qr : (0 : Int32) = if cF C 3 d 4 = 0 then 0 else 1 := by rw [if_pos h16]
    exact hE hW qr dX4_fix_36
  · refine lv_iconst (v := 1) hx hb dX4_fix_19 (by decide) ?_
    refine lv_goto (tgt := 24) hx hb dX4_fix_20 (by decide) ?_
    refine lv_istore_n (lv' := [(3, .int 1), (2, .ref (zad G 3 d)), (0, .ref (zad G 0 0)), (1, .int (nI d))]) hx hb dX4_fix_24 rfl hl (by decide) rfl (fun ls hl => ?_)
    refine lv_aload_n hx hb dX4_fix_25 rfl (lv_at hl 1 rfl) ?_
    refine lv_iconst (v := 0) hx hb dX4_fix_26 (by decide) ?_
    refine p3J (v := 0) hC hW hd (by decide) mF_X4_106 dX4_fix_27 (fun _ eS H locs hW => ?_)
    subst eS
    refine lv_aload_n hx hb dX4_fix_30 rfl (lv_at hl 1 rfl) ?_
    refine lv_iconst (v := (-1)) hx hb dX4_fix_31 (by decide) ?_
    refine p3F (k := 5) (v := (-1)) hC hW hd (by decide) mF_X4_110 dX4_fix_32 (fun _ eS H locs hW => ?_)
    subst eS
    refine lv_iload_n hx hb dX4_fix_35 rfl (lv_at hl 0 rfl) ?_
    have qr : (1 : Int32) = if cF C 3 d 4 = 0 then 0 else 1 := by rw [if_neg h16]
    exact hE hW qr dX4_fix_36

theorem c_X4_fix (l : Launch) (G : GG) (C : CS) (M : MS) (x : Int32) : Ct l G yX4_fix cX4_fix 4 (some .int) 1 21 [.ref (zad G 0 0), .int x] C M (some (.int (fixT C x).1)) (fixT C x).2 M := by
  unfold fixT
  rcases drive_cases x with hb | ⟨d, hd, rfl, hb, hdx⟩
  · rw [if_pos hb]; exact c_fix_b l G C M hb
  · rw [if_neg hb, hdx]; exact c_fix_1 l G C M hd

set_option maxHeartbeats 4000000 in
set_option maxRecDepth 100000 in
theorem c_X4_power (l : Launch) (G : GG) (C : CS) (M : MS) (x : Int32) : Ct l G yX4_power cX4_power 2 (some .int) 0 0 [.ref (zad G 0 0), .int x] C M (some (.int ((powT C x).1))) ((powT C x).2) M := by
  refine Ct_i (by decide) (Nat.le_of_ble_eq_true rfl) (fun {p e s m args below meth c A Q ls} hC hW hl hE => ?_)
  have hx := hC.1
  have hb := hC.2.1
  have hl : lv_has ls 2 [(0, .ref (zad G 0 0)), (1, .int x)] := hl
  refine lv_iload_n hx hb dX4_power_0 rfl (lv_at hl 1 rfl) ?_
  refine lv_iconst (v := (-1)) hx hb dX4_power_1 (by decide) ?_
  refine lv_icmp_lt (tgt := 11) hx hb dX4_power_2 (by decide) (fun h2 => ?_) (fun h2 => ?_)
  · refine lv_iconst (v := (-1)) hx hb dX4_power_11 (by decide) ?_
    have qC : C = (powT C x).2 := by simp [powT, h2]
    rw [qC] at hW
    have qr : ((-1) : Int32) = (powT C x).1 := by simp [powT, h2]
    exact hE hW qr dX4_power_12
  · refine lv_iload_n hx hb dX4_power_5 rfl (lv_at hl 1 rfl) ?_
    refine lv_ldc (v := 100000) hx hb hC.2.2.2.1 (hC.2.2.2.2 _ mQ_X4_113) dX4_power_6 ?_
    refine lv_icmp_le (tgt := 13) hx hb dX4_power_8 (by decide) (fun h8 => ?_) (fun h8 => ?_)
    · refine lv_aload_n hx hb dX4_power_13 rfl (lv_at hl 0 rfl) ?_
      refine g0 (k := 0) (v := .ref (zad G 1 0)) hC hW (by decide) mF_X4_10 rfl dX4_power_14 ?_
      refine lv_iload_n hx hb dX4_power_17 rfl (lv_at hl 1 rfl) ?_
      refine p1 (k := 2) (v := x) hC hW (by decide) mF_X4_114 dX4_power_18 (fun _ eS H locs hW => ?_)
      subst eS
      refine lv_iload_n hx hb dX4_power_21 rfl (lv_at hl 1 rfl) ?_
      have qC : sF C 1 0 2 x = (powT C x).2 := by simp [powT, h2, h8]
      rw [qC] at hW
      have qr : (x : Int32) = (powT C x).1 := by simp [powT, h2, h8]
      exact hE hW qr dX4_power_22
    · refine lv_iconst (v := (-1)) hx hb dX4_power_11 (by decide) ?_
      have qC : C = (powT C x).2 := by simp [powT, h2, h8]
      rw [qC] at hW
      have qr : ((-1) : Int32) = (powT C x).1 := by simp [powT, h2, h8]
      exact hE hW qr dX4_power_12

set_option maxHeartbeats 4000000 in
set_option maxRecDepth 100000 in
theorem c_pla_b (l : Launch) (G : GG) (C : CS) (M : MS) (h12 : zn G ≤ 12) {x y : Int32} (hby : badT (zn G) y) : Ct l G yX4_place cX4_place 4 (some .int) 3 64 [.ref (zad G 0 0), .int x, .int y] C M (some (.int (-1))) C M := by
  refine Ct_i (by decide) (Nat.le_of_ble_eq_true rfl) (fun {p e s m args below meth c A Q ls} hC hW hl hE => ?_)
  have hx := hC.1
  have hb := hC.2.1
  have hl : lv_has ls 4 [(0, .ref (zad G 0 0)), (1, .int x), (2, .int y)] := hl
  refine lv_aload_n hx hb dX4_place_0 rfl (lv_at hl 0 rfl) ?_
  refine lv_iload_n hx hb dX4_place_1 rfl (lv_at hl 2 rfl) ?_
  refine z_callV (As := [.int y]) (rest := []) (st1 := [.null]) hC hW LL_0 rfl rfl rfl (c_X4_findTape_n l G C M h12 (x := y) hby) mw_X4_findTape mv_X4_findTape mM_X4_62 ⟨Nat.le_of_ble_eq_true rfl, Nat.le_of_ble_eq_true rfl⟩ rfl rfl hl.1 (lv_room (Nat.le_of_ble_eq_true rfl)) dX4_place_2 rfl (fun H locs hW => ?_) ⟨Nat.zero_le _, Nat.zero_le _⟩
  refine lv_astore_nN (lv' := [(3, .null), (0, .ref (zad G 0 0)), (1, .int x), (2, .int y)]) hx hb dX4_place_5 rfl hl (by decide) rfl (fun ls hl => ?_)
  refine lv_iload_n hx hb dX4_place_6 rfl (lv_at hl 2 rfl) ?_
  refine z_callS (rest := []) (st1 := [.int (bI (nameP x))]) hC hW (c_X4_isName l G C M x) mw_X4_isName mT_X4_isName mM_X4_52 ⟨Nat.le_of_ble_eq_true rfl, Nat.le_of_ble_eq_true rfl⟩ rfl rfl hl.1 (lv_room (Nat.le_of_ble_eq_true rfl)) dX4_place_7 rfl (fun H locs hW => ?_) ⟨Nat.zero_le _, Nat.zero_le _⟩
  refine zb_eq (tgt := 17) hx hb (nameP x) rfl dX4_place_10 (by decide) (fun h10 => ?_) (fun h10 => ?_)
  · refine lv_iconst (v := (-1)) hx hb dX4_place_17 (by decide) ?_
    have qr : ((-1) : Int32) = -1 := by simp [bI, h10, cF_sF, cN_sN, cB_sB, cM_sM, cN_sF, cB_sF, cM_sF, cF_sN, cB_sN, cM_sN, cF_sB, cN_sB, cM_sB, cF_sM, cN_sM, cB_sM, mF_smF, mA_smF, mF_smA, mA_smA]
    exact hE hW qr dX4_place_18
  · refine lv_aload_nN hx hb dX4_place_13 rfl (lv_at hl 0 rfl) ?_
    refine lv_ifnonnullN hx hb dX4_place_14 ?_
    refine lv_iconst (v := (-1)) hx hb dX4_place_17 (by decide) ?_
    have qr : ((-1) : Int32) = -1 := by simp [bI, h10, cF_sF, cN_sN, cB_sB, cM_sM, cN_sF, cB_sF, cM_sF, cF_sN, cB_sN, cM_sN, cF_sB, cN_sB, cM_sB, cF_sM, cN_sM, cB_sM, mF_smF, mA_smF, mF_smA, mA_smA]
    exact hE hW qr dX4_place_18

set_option maxHeartbeats 4000000 in
set_option maxRecDepth 100000 in
theorem c_pla_n (l : Launch) (G : GG) (C : CS) (M : MS) (h12 : zn G ≤ 12) {x : Int32} {t : Nat} (ht : t < zn G) (hn : ¬ nameP x) : Ct l G yX4_place cX4_place 4 (some .int) 3 64 [.ref (zad G 0 0), .int x, .int (nI t)] C M (some (.int (-1))) C M := by
  refine Ct_i (by decide) (Nat.le_of_ble_eq_true rfl) (fun {p e s m args below meth c A Q ls} hC hW hl hE => ?_)
  have hx := hC.1
  have hb := hC.2.1
  have hl : lv_has ls 4 [(0, .ref (zad G 0 0)), (1, .int x), (2, .int (nI t))] := hl
  refine lv_aload_n hx hb dX4_place_0 rfl (lv_at hl 0 rfl) ?_
  refine lv_iload_n hx hb dX4_place_1 rfl (lv_at hl 2 rfl) ?_
  refine z_callV (As := [.int (nI t)]) (rest := []) (st1 := [.ref (zad G 9 t)]) hC hW LL_0 rfl rfl rfl (c_X4_findTape l G C M h12 (t := t) ht) mw_X4_findTape mv_X4_findTape mM_X4_62 ⟨Nat.le_of_ble_eq_true rfl, Nat.le_of_ble_eq_true rfl⟩ rfl rfl hl.1 (lv_room (Nat.le_of_ble_eq_true rfl)) dX4_place_2 rfl (fun H locs hW => ?_) ⟨Nat.zero_le _, Nat.zero_le _⟩
  refine lv_astore_n (lv' := [(3, .ref (zad G 9 t)), (0, .ref (zad G 0 0)), (1, .int x), (2, .int (nI t))]) hx hb dX4_place_5 rfl hl (by decide) rfl (fun ls hl => ?_)
  refine lv_iload_n hx hb dX4_place_6 rfl (lv_at hl 2 rfl) ?_
  refine z_callS (rest := []) (st1 := [.int (bI (nameP x))]) hC hW (c_X4_isName l G C M x) mw_X4_isName mT_X4_isName mM_X4_52 ⟨Nat.le_of_ble_eq_true rfl, Nat.le_of_ble_eq_true rfl⟩ rfl rfl hl.1 (lv_room (Nat.le_of_ble_eq_true rfl)) dX4_place_7 rfl (fun H locs hW => ?_) ⟨Nat.zero_le _, Nat.zero_le _⟩
  refine zb_eq (tgt := 17) hx hb (nameP x) rfl dX4_place_10 (by decide) (fun h10 => ?_) (fun h10 => ?_)
  · refine lv_iconst (v := (-1)) hx hb dX4_place_17 (by decide) ?_
    have qr : ((-1) : Int32) = -1 := by simp [bI, h10, cF_sF, cN_sN, cB_sB, cM_sM, cN_sF, cB_sF, cM_sF, cF_sN, cB_sN, cM_sN, cF_sB, cN_sB, cM_sB, cF_sM, cN_sM, cB_sM, mF_smF, mA_smF, mF_smA, mA_smA]
    exact hE hW qr dX4_place_18
  · exact absurd h10 hn

set_option maxHeartbeats 4000000 in
set_option maxRecDepth 100000 in
theorem c_pla_1 (l : Launch) (G : GG) (C : CS) (M : MS) (h12 : zn G ≤ 12) {x : Int32} {t : Nat} (ht : t < zn G) (hn : nameP x) (hI : Iv C) : Ct l G yX4_place cX4_place 4 (some .int) 3 64 [.ref (zad G 0 0), .int x, .int (nI t)] C M (some (.int (oI (lh C t x)))) C M := by
  refine Ct_i (by decide) (Nat.le_of_ble_eq_true rfl) (fun {p e s m args below meth c A Q ls} hC hW hl hE => ?_)
  have hx := hC.1
  have hb := hC.2.1
  have hl : lv_has ls 4 [(0, .ref (zad G 0 0)), (1, .int x), (2, .int (nI t))] := hl
  refine lv_aload_n hx hb dX4_place_0 rfl (lv_at hl 0 rfl) ?_
  refine lv_iload_n hx hb dX4_place_1 rfl (lv_at hl 2 rfl) ?_
  refine z_callV (As := [.int (nI t)]) (rest := []) (st1 := [.ref (zad G 9 t)]) hC hW LL_0 rfl rfl rfl (c_X4_findTape l G C M h12 (t := t) ht) mw_X4_findTape mv_X4_findTape mM_X4_62 ⟨Nat.le_of_ble_eq_true rfl, Nat.le_of_ble_eq_true rfl⟩ rfl rfl hl.1 (lv_room (Nat.le_of_ble_eq_true rfl)) dX4_place_2 rfl (fun H locs hW => ?_) ⟨Nat.zero_le _, Nat.zero_le _⟩
  refine lv_astore_n (lv' := [(3, .ref (zad G 9 t)), (0, .ref (zad G 0 0)), (1, .int x), (2, .int (nI t))]) hx hb dX4_place_5 rfl hl (by decide) rfl (fun ls hl => ?_)
  refine lv_iload_n hx hb dX4_place_6 rfl (lv_at hl 2 rfl) ?_
  refine z_callS (rest := []) (st1 := [.int (bI (nameP x))]) hC hW (c_X4_isName l G C M x) mw_X4_isName mT_X4_isName mM_X4_52 ⟨Nat.le_of_ble_eq_true rfl, Nat.le_of_ble_eq_true rfl⟩ rfl rfl hl.1 (lv_room (Nat.le_of_ble_eq_true rfl)) dX4_place_7 rfl (fun H locs hW => ?_) ⟨Nat.zero_le _, Nat.zero_le _⟩
  refine zb_eq (tgt := 17) hx hb (nameP x) rfl dX4_place_10 (by decide) (fun h10 => ?_) (fun h10 => ?_)
  · exact absurd hn h10
  · refine lv_aload_n hx hb dX4_place_13 rfl (lv_at hl 0 rfl) ?_
    refine lv_ifnonnull (tgt := 19) hx hb dX4_place_14 (by decide) ?_
    refine lv_aload_n hx hb dX4_place_19 rfl (lv_at hl 0 rfl) ?_
    refine lv_iload_n hx hb dX4_place_20 rfl (lv_at hl 2 rfl) ?_
    refine z_callV (As := [.int x]) (rest := []) (st1 := [.int (oI (lh C t x))]) hC hW (LL_9 ht) rfl rfl rfl (c_X3_listedHead l G C M ht hI x) mw_X3_listedHead mv_X3_listedHead mM_X4_77 ⟨Nat.le_of_ble_eq_true rfl, Nat.le_of_ble_eq_true rfl⟩ rfl rfl hl.1 (lv_room (Nat.le_of_ble_eq_true rfl)) dX4_place_21 rfl (fun H locs hW => ?_) ⟨Nat.zero_le _, Nat.zero_le _⟩
    exact hE hW rfl dX4_place_24

theorem c_X4_place (l : Launch) (G : GG) (C : CS) (M : MS) (h12 : zn G ≤ 12) (hI : Iv C) (x y : Int32) : Ct l G yX4_place cX4_place 4 (some .int) 3 64 [.ref (zad G 0 0), .int x, .int y] C M (some (.int (plaT (zn G) C x y))) C M := by
  unfold plaT
  rcases tape_cases h12 y with hb | ⟨t, ht, rfl, hb, htx⟩
  · rw [if_pos hb]; exact c_pla_b l G C M h12 hb
  · rw [if_neg hb, htx]
    by_cases hn : nameP x
    · rw [if_pos hn]; exact c_pla_1 l G C M h12 ht hn hI
    · rw [if_neg hn]; exact c_pla_n l G C M h12 ht hn

set_option maxHeartbeats 4000000 in
set_option maxRecDepth 100000 in
theorem c_blo_b (l : Launch) (G : GG) (C : CS) (M : MS) (h12 : zn G ≤ 12) {x : Int32} (hbx : badT (zn G) x) (y z : Int32) : Ct l G yX4_block cX4_block 5 (some .int) 2 42 [.ref (zad G 0 0), .int x, .int y, .int z] C M (some (.int (-1))) C M := by
  refine Ct_i (by decide) (Nat.le_of_ble_eq_true rfl) (fun {p e s m args below meth c A Q ls} hC hW hl hE => ?_)
  have hx := hC.1
  have hb := hC.2.1
  have hl : lv_has ls 5 [(0, .ref (zad G 0 0)), (1, .int x), (2, .int y), (3, .int z)] := hl
  refine lv_aload_n hx hb dX4_block_0 rfl (lv_at hl 0 rfl) ?_
  refine lv_iload_n hx hb dX4_block_1 rfl (lv_at hl 1 rfl) ?_
  refine z_callV (As := [.int x]) (rest := []) (st1 := [.null]) hC hW LL_0 rfl rfl rfl (c_X4_findTape_n l G C M h12 (x := x) hbx) mw_X4_findTape mv_X4_findTape mM_X4_62 ⟨Nat.le_of_ble_eq_true rfl, Nat.le_of_ble_eq_true rfl⟩ rfl rfl hl.1 (lv_room (Nat.le_of_ble_eq_true rfl)) dX4_block_2 rfl (fun H locs hW => ?_) ⟨Nat.zero_le _, Nat.zero_le _⟩
  refine lv_astoreN (lv' := [(4, .null), (0, .ref (zad G 0 0)), (1, .int x), (2, .int y), (3, .int z)]) hx hb dX4_block_5 hl (by decide) rfl (fun ls hl => ?_)
  refine lv_aloadN hx hb dX4_block_7 (lv_at hl 0 rfl) ?_
  refine lv_ifnullN (tgt := 19) hx hb dX4_block_9 (by decide) ?_
  refine lv_iconst (v := (-1)) hx hb dX4_block_19 (by decide) ?_
  have qr : ((-1) : Int32) = -1 := by simp [bI, cF_sF, cN_sN, cB_sB, cM_sM, cN_sF, cB_sF, cM_sF, cF_sN, cB_sN, cM_sN, cF_sB, cN_sB, cM_sB, cF_sM, cN_sM, cB_sM, mF_smF, mA_smF, mF_smA, mA_smA]
  exact hE hW qr dX4_block_20

set_option maxHeartbeats 4000000 in
set_option maxRecDepth 100000 in
theorem c_blo_p (l : Launch) (G : GG) (C : CS) (M : MS) (h12 : zn G ≤ 12) {t : Nat} (ht : t < zn G) {y : Int32} (hp : ¬ placeP y) (z : Int32) : Ct l G yX4_block cX4_block 5 (some .int) 2 42 [.ref (zad G 0 0), .int (nI t), .int y, .int z] C M (some (.int (-1))) C M := by
  refine Ct_i (by decide) (Nat.le_of_ble_eq_true rfl) (fun {p e s m args below meth c A Q ls} hC hW hl hE => ?_)
  have hx := hC.1
  have hb := hC.2.1
  have hl : lv_has ls 5 [(0, .ref (zad G 0 0)), (1, .int (nI t)), (2, .int y), (3, .int z)] := hl
  refine lv_aload_n hx hb dX4_block_0 rfl (lv_at hl 0 rfl) ?_
  refine lv_iload_n hx hb dX4_block_1 rfl (lv_at hl 1 rfl) ?_
  refine z_callV (As := [.int (nI t)]) (rest := []) (st1 := [.ref (zad G 9 t)]) hC hW LL_0 rfl rfl rfl (c_X4_findTape l G C M h12 (t := t) ht) mw_X4_findTape mv_X4_findTape mM_X4_62 ⟨Nat.le_of_ble_eq_true rfl, Nat.le_of_ble_eq_true rfl⟩ rfl rfl hl.1 (lv_room (Nat.le_of_ble_eq_true rfl)) dX4_block_2 rfl (fun H locs hW => ?_) ⟨Nat.zero_le _, Nat.zero_le _⟩
  refine lv_astore (lv' := [(4, .ref (zad G 9 t)), (0, .ref (zad G 0 0)), (1, .int (nI t)), (2, .int y), (3, .int z)]) hx hb dX4_block_5 hl (by decide) rfl (fun ls hl => ?_)
  refine lv_aload hx hb dX4_block_7 (lv_at hl 0 rfl) ?_
  refine lv_ifnull hx hb dX4_block_9 ?_
  refine lv_iload_n hx hb dX4_block_12 rfl (lv_at hl 3 rfl) ?_
  refine z_callS (rest := []) (st1 := [.int (bI (placeP y))]) hC hW (c_X4_isPlace l G C M y) mw_X4_isPlace mT_X4_isPlace mM_X4_95 ⟨Nat.le_of_ble_eq_true rfl, Nat.le_of_ble_eq_true rfl⟩ rfl rfl hl.1 (lv_room (Nat.le_of_ble_eq_true rfl)) dX4_block_13 rfl (fun H locs hW => ?_) ⟨Nat.zero_le _, Nat.zero_le _⟩
  refine zb_ne (tgt := 21) hx hb (placeP y) rfl dX4_block_16 (by decide) (fun h16 => ?_) (fun h16 => ?_)
  · exact absurd h16 hp
  · refine lv_iconst (v := (-1)) hx hb dX4_block_19 (by decide) ?_
    have qr : ((-1) : Int32) = -1 := by simp [bI, h16, cF_sF, cN_sN, cB_sB, cM_sM, cN_sF, cB_sF, cM_sF, cF_sN, cB_sN, cM_sN, cF_sB, cN_sB, cM_sB, cF_sM, cN_sM, cB_sM, mF_smF, mA_smF, mF_smA, mA_smA]
    exact hE hW qr dX4_block_20

set_option maxHeartbeats 4000000 in
set_option maxRecDepth 100000 in
theorem c_blo_1 (l : Launch) (G : GG) (C : CS) (M : MS) (h12 : zn G ≤ 12) {t a : Nat} (ht : t < zn G) (hI : Iv C) (ha : a < 100) (hp : placeP (nI a)) (w : Int32) : Ct l G yX4_block cX4_block 5 (some .int) 2 42 [.ref (zad G 0 0), .int (nI t), .int (nI a), .int w] C M (some (.int (bloC C t a w))) C M := by
  refine Ct_i (by decide) (Nat.le_of_ble_eq_true rfl) (fun {p e s m args below meth c A Q ls} hC hW hl hE => ?_)
  have hx := hC.1
  have hb := hC.2.1
  have hl : lv_has ls 5 [(0, .ref (zad G 0 0)), (1, .int (nI t)), (2, .int (nI a)), (3, .int w)] := hl
  refine lv_aload_n hx hb dX4_block_0 rfl (lv_at hl 0 rfl) ?_
  refine lv_iload_n hx hb dX4_block_1 rfl (lv_at hl 1 rfl) ?_
  refine z_callV (As := [.int (nI t)]) (rest := []) (st1 := [.ref (zad G 9 t)]) hC hW LL_0 rfl rfl rfl (c_X4_findTape l G C M h12 (t := t) ht) mw_X4_findTape mv_X4_findTape mM_X4_62 ⟨Nat.le_of_ble_eq_true rfl, Nat.le_of_ble_eq_true rfl⟩ rfl rfl hl.1 (lv_room (Nat.le_of_ble_eq_true rfl)) dX4_block_2 rfl (fun H locs hW => ?_) ⟨Nat.zero_le _, Nat.zero_le _⟩
  refine lv_astore (lv' := [(4, .ref (zad G 9 t)), (0, .ref (zad G 0 0)), (1, .int (nI t)), (2, .int (nI a)), (3, .int w)]) hx hb dX4_block_5 hl (by decide) rfl (fun ls hl => ?_)
  refine lv_aload hx hb dX4_block_7 (lv_at hl 0 rfl) ?_
  refine lv_ifnull hx hb dX4_block_9 ?_
  refine lv_iload_n hx hb dX4_block_12 rfl (lv_at hl 3 rfl) ?_
  refine z_callS (rest := []) (st1 := [.int (bI (placeP (nI a)))]) hC hW (c_X4_isPlace l G C M (nI a)) mw_X4_isPlace mT_X4_isPlace mM_X4_95 ⟨Nat.le_of_ble_eq_true rfl, Nat.le_of_ble_eq_true rfl⟩ rfl rfl hl.1 (lv_room (Nat.le_of_ble_eq_true rfl)) dX4_block_13 rfl (fun H locs hW => ?_) ⟨Nat.zero_le _, Nat.zero_le _⟩
  refine zb_ne (tgt := 21) hx hb (placeP (nI a)) rfl dX4_block_16 (by decide) (fun h16 => ?_) (fun h16 => ?_)
  · refine lv_iload_n hx hb dX4_block_21 rfl (lv_at hl 4 rfl) ?_
    rcases sw4 w with rfl | rfl | rfl | rfl | ⟨w0, w1, w2, w3, wn⟩
    · refine lv_tableIn (off := 30) (tgt := 52) hx hb dX4_block_22 (by decide) (by decide) (by decide) (by decide) ?_
      refine lv_aload hx hb dX4_block_52 (lv_at hl 0 rfl) ?_
      refine g9 (k := 1) (v := .ref (zad G 5 t)) hC hW ht (by decide) mF_X4_117 rfl dX4_block_54 ?_
      refine lv_iload_n hx hb dX4_block_57 rfl (lv_at hl 3 rfl) ?_
      refine z_callV (As := [.int (nI a)]) (rest := []) (st1 := [.int (kAt C 6 t a)]) hC hW (LL_5 (Or.inl ht)) rfl rfl rfl (c_X0_kindAt l G C M (Or.inl ht) (hI.1 t) (a := a) (by omega)) mw_X0_kindAt mv_X0_kindAt mM_X4_120 ⟨Nat.le_of_ble_eq_true rfl, Nat.le_of_ble_eq_true rfl⟩ rfl rfl hl.1 (lv_room (Nat.le_of_ble_eq_true rfl)) dX4_block_58 rfl (fun H locs hW => ?_) ⟨Nat.zero_le _, Nat.zero_le _⟩
      have qr : (kAt C 6 t a : Int32) = bloC C t a 0 := by simp [bloC, h16]
      exact hE hW qr dX4_block_61
    · refine lv_tableIn (off := 40) (tgt := 62) hx hb dX4_block_22 (by decide) (by decide) (by decide) (by decide) ?_
      refine lv_aload hx hb dX4_block_62 (lv_at hl 0 rfl) ?_
      refine g9 (k := 1) (v := .ref (zad G 5 t)) hC hW ht (by decide) mF_X4_117 rfl dX4_block_64 ?_
      refine lv_iload_n hx hb dX4_block_67 rfl (lv_at hl 3 rfl) ?_
      refine z_callV (As := [.int (nI a)]) (rest := []) (st1 := [.int (kAt C 7 t a)]) hC hW (LL_5 (Or.inl ht)) rfl rfl rfl (c_X0_valueAt l G C M (Or.inl ht) (hI.1 t) (a := a) (by omega)) mw_X0_valueAt mv_X0_valueAt mM_X4_123 ⟨Nat.le_of_ble_eq_true rfl, Nat.le_of_ble_eq_true rfl⟩ rfl rfl hl.1 (lv_room (Nat.le_of_ble_eq_true rfl)) dX4_block_68 rfl (fun H locs hW => ?_) ⟨Nat.zero_le _, Nat.zero_le _⟩
      have qr : (kAt C 7 t a : Int32) = bloC C t a 1 := by simp [bloC, h16]
      exact hE hW qr dX4_block_71
    · refine lv_tableIn (off := 50) (tgt := 72) hx hb dX4_block_22 (by decide) (by decide) (by decide) (by decide) ?_
      refine lv_aload hx hb dX4_block_72 (lv_at hl 0 rfl) ?_
      refine g9 (k := 1) (v := .ref (zad G 5 t)) hC hW ht (by decide) mF_X4_117 rfl dX4_block_74 ?_
      refine lv_iload_n hx hb dX4_block_77 rfl (lv_at hl 3 rfl) ?_
      refine z_callV (As := [.int (nI a)]) (rest := []) (st1 := [.int (kAt C 8 t a)]) hC hW (LL_5 (Or.inl ht)) rfl rfl rfl (c_X0_sizeAt l G C M (Or.inl ht) (hI.1 t) (a := a) (by omega)) mw_X0_sizeAt mv_X0_sizeAt mM_X4_126 ⟨Nat.le_of_ble_eq_true rfl, Nat.le_of_ble_eq_true rfl⟩ rfl rfl hl.1 (lv_room (Nat.le_of_ble_eq_true rfl)) dX4_block_78 rfl (fun H locs hW => ?_) ⟨Nat.zero_le _, Nat.zero_le _⟩
      have qr : (kAt C 8 t a : Int32) = bloC C t a 2 := by simp [bloC, h16]
      exact hE hW qr dX4_block_81
    · refine lv_tableIn (off := 60) (tgt := 82) hx hb dX4_block_22 (by decide) (by decide) (by decide) (by decide) ?_
      refine lv_aload hx hb dX4_block_82 (lv_at hl 0 rfl) ?_
      refine lv_iload_n hx hb dX4_block_84 rfl (lv_at hl 3 rfl) ?_
      refine z_callV (As := [.int (nI a)]) (rest := []) (st1 := [.int (bI (dmgP C t a))]) hC hW (LL_9 ht) rfl rfl rfl (c_X3_isDamaged l G C M ht (a := a) (by omega)) mw_X3_isDamaged mv_X3_isDamaged mM_X4_129 ⟨Nat.le_of_ble_eq_true rfl, Nat.le_of_ble_eq_true rfl⟩ rfl rfl hl.1 (lv_room (Nat.le_of_ble_eq_true rfl)) dX4_block_85 rfl (fun H locs hW => ?_) ⟨Nat.zero_le _, Nat.zero_le _⟩
      refine zb_eq (tgt := 95) hx hb (dmgP C t a) rfl dX4_block_88 (by decide) (fun h88 => ?_) (fun h88 => ?_)
      · refine lv_iconst (v := 0) hx hb dX4_block_95 (by decide) ?_
        have qr : (0 : Int32) = bloC C t a 3 := by show (0 : Int32) = bI (dmgP C t a); exact bI_f h88
        exact hE hW qr dX4_block_96
      · refine lv_iconst (v := 1) hx hb dX4_block_91 (by decide) ?_
        refine lv_goto (tgt := 96) hx hb dX4_block_92 (by decide) ?_
        have qr : (1 : Int32) = bloC C t a 3 := by show (1 : Int32) = bI (dmgP C t a); exact bI_t h88
        exact hE hW qr dX4_block_96
    · refine lv_tableOut (tgt := 97) hx hb dX4_block_22 wn (by decide) ?_
      refine lv_iconst (v := (-1)) hx hb dX4_block_97 (by decide) ?_
      have qr : ((-1) : Int32) = bloC C t a w := by simp [bloC, w0, w1, w2, w3]
      exact hE hW qr dX4_block_98
  · exact absurd hp h16

theorem c_X4_block (l : Launch) (G : GG) (C : CS) (M : MS) (h12 : zn G ≤ 12) (hI : Iv C) (x y w : Int32) : Ct l G yX4_block cX4_block 5 (some .int) 2 42 [.ref (zad G 0 0), .int x, .int y, .int w] C M (some (.int (bloT (zn G) C x y w))) C M := by
  unfold bloT
  rcases tape_cases h12 x with hb | ⟨t, ht, rfl, hb, htx⟩
  · rw [if_pos hb]; exact c_blo_b l G C M h12 hb y w
  · rw [if_neg hb, htx]
    by_cases hp : placeP y
    · rw [if_pos hp]
      obtain ⟨a, ha, rfl, hax⟩ := place_arg hp
      rw [hax]
      exact c_blo_1 l G C M h12 ht hI ha hp w
    · rw [if_neg hp]; exact c_blo_p l G C M h12 ht hp w

set_option maxHeartbeats 4000000 in
set_option maxRecDepth 100000 in
theorem c_tt_b (l : Launch) (G : GG) (C : CS) (M : MS) (h12 : zn G ≤ 12) {x : Int32} (hbx : badT (zn G) x) (z : Int32) : Ct l G yX4_tapeTold cX4_tapeTold 4 (some .int) 1 21 [.ref (zad G 0 0), .int x, .int z] C M (some (.int (-1))) C M := by
  refine Ct_i (by decide) (Nat.le_of_ble_eq_true rfl) (fun {p e s m args below meth c A Q ls} hC hW hl hE => ?_)
  have hx := hC.1
  have hb := hC.2.1
  have hl : lv_has ls 4 [(0, .ref (zad G 0 0)), (1, .int x), (2, .int z)] := hl
  refine lv_aload_n hx hb dX4_tapeTold_0 rfl (lv_at hl 0 rfl) ?_
  refine lv_iload_n hx hb dX4_tapeTold_1 rfl (lv_at hl 1 rfl) ?_
  refine z_callV (As := [.int x]) (rest := []) (st1 := [.null]) hC hW LL_0 rfl rfl rfl (c_X4_findTape_n l G C M h12 (x := x) hbx) mw_X4_findTape mv_X4_findTape mM_X4_62 ⟨Nat.le_of_ble_eq_true rfl, Nat.le_of_ble_eq_true rfl⟩ rfl rfl hl.1 (lv_room (Nat.le_of_ble_eq_true rfl)) dX4_tapeTold_2 rfl (fun H locs hW => ?_) ⟨Nat.zero_le _, Nat.zero_le _⟩
  refine lv_astore_nN (lv' := [(3, .null), (0, .ref (zad G 0 0)), (1, .int x), (2, .int z)]) hx hb dX4_tapeTold_5 rfl hl (by decide) rfl (fun ls hl => ?_)
  refine lv_aload_nN hx hb dX4_tapeTold_6 rfl (lv_at hl 0 rfl) ?_
  refine lv_ifnonnullN hx hb dX4_tapeTold_7 ?_
  refine lv_iconst (v := (-1)) hx hb dX4_tapeTold_10 (by decide) ?_
  have qr : ((-1) : Int32) = -1 := by simp [bI, cF_sF, cN_sN, cB_sB, cM_sM, cN_sF, cB_sF, cM_sF, cF_sN, cB_sN, cM_sN, cF_sB, cN_sB, cM_sB, cF_sM, cN_sM, cB_sM, mF_smF, mA_smF, mF_smA, mA_smA]
  exact hE hW qr dX4_tapeTold_11

set_option maxHeartbeats 4000000 in
set_option maxRecDepth 100000 in
theorem c_tt_1 (l : Launch) (G : GG) (C : CS) (M : MS) (h12 : zn G ≤ 12) {t : Nat} (ht : t < zn G) (w : Int32) : Ct l G yX4_tapeTold cX4_tapeTold 4 (some .int) 1 21 [.ref (zad G 0 0), .int (nI t), .int w] C M (some (.int (ttC C t w))) C M := by
  refine Ct_i (by decide) (Nat.le_of_ble_eq_true rfl) (fun {p e s m args below meth c A Q ls} hC hW hl hE => ?_)
  have hx := hC.1
  have hb := hC.2.1
  have hl : lv_has ls 4 [(0, .ref (zad G 0 0)), (1, .int (nI t)), (2, .int w)] := hl
  refine lv_aload_n hx hb dX4_tapeTold_0 rfl (lv_at hl 0 rfl) ?_
  refine lv_iload_n hx hb dX4_tapeTold_1 rfl (lv_at hl 1 rfl) ?_
  refine z_callV (As := [.int (nI t)]) (rest := []) (st1 := [.ref (zad G 9 t)]) hC hW LL_0 rfl rfl rfl (c_X4_findTape l G C M h12 (t := t) ht) mw_X4_findTape mv_X4_findTape mM_X4_62 ⟨Nat.le_of_ble_eq_true rfl, Nat.le_of_ble_eq_true rfl⟩ rfl rfl hl.1 (lv_room (Nat.le_of_ble_eq_true rfl)) dX4_tapeTold_2 rfl (fun H locs hW => ?_) ⟨Nat.zero_le _, Nat.zero_le _⟩
  refine lv_astore_n (lv' := [(3, .ref (zad G 9 t)), (0, .ref (zad G 0 0)), (1, .int (nI t)), (2, .int w)]) hx hb dX4_tapeTold_5 rfl hl (by decide) rfl (fun ls hl => ?_)
  refine lv_aload_n hx hb dX4_tapeTold_6 rfl (lv_at hl 0 rfl) ?_
  refine lv_ifnonnull (tgt := 12) hx hb dX4_tapeTold_7 (by decide) ?_
  refine lv_iload_n hx hb dX4_tapeTold_12 rfl (lv_at hl 3 rfl) ?_
  rcases sw4 w with rfl | rfl | rfl | rfl | ⟨w0, w1, w2, w3, wn⟩
  · refine lv_tableIn (off := 31) (tgt := 44) hx hb dX4_tapeTold_13 (by decide) (by decide) (by decide) (by decide) ?_
    refine lv_aload_n hx hb dX4_tapeTold_44 rfl (lv_at hl 0 rfl) ?_
    refine g9 (k := 0) (v := .int (nI (cN C 9 t 0))) hC hW ht (by decide) mF_X4_132 rfl dX4_tapeTold_45 ?_
    have qr : (nI (cN C 9 t 0) : Int32) = ttC C t 0 := by simp [ttC]
    exact hE hW qr dX4_tapeTold_48
  · refine lv_tableIn (off := 36) (tgt := 49) hx hb dX4_tapeTold_13 (by decide) (by decide) (by decide) (by decide) ?_
    refine lv_aload_n hx hb dX4_tapeTold_49 rfl (lv_at hl 0 rfl) ?_
    refine g9 (k := 1) (v := .ref (zad G 5 t)) hC hW ht (by decide) mF_X4_117 rfl dX4_tapeTold_50 ?_
    refine g5 (k := 3) (v := .int (nI (cN C 5 t 3))) hC hW (Or.inl ht) (by decide) mF_X4_66 rfl dX4_tapeTold_53 ?_
    have qr : (nI (cN C 5 t 3) : Int32) = ttC C t 1 := by simp [ttC]
    exact hE hW qr dX4_tapeTold_56
  · refine lv_tableIn (off := 44) (tgt := 57) hx hb dX4_tapeTold_13 (by decide) (by decide) (by decide) (by decide) ?_
    refine lv_aload_n hx hb dX4_tapeTold_57 rfl (lv_at hl 0 rfl) ?_
    refine g9 (k := 4) (v := .int (cF C 9 t 4)) hC hW ht (by decide) mF_X4_135 rfl dX4_tapeTold_58 ?_
    have qr : (cF C 9 t 4 : Int32) = ttC C t 2 := by simp [ttC]
    exact hE hW qr dX4_tapeTold_61
  · refine lv_tableIn (off := 49) (tgt := 62) hx hb dX4_tapeTold_13 (by decide) (by decide) (by decide) (by decide) ?_
    refine lv_aload_n hx hb dX4_tapeTold_62 rfl (lv_at hl 0 rfl) ?_
    refine g9 (k := 5) (v := .int (cF C 9 t 5)) hC hW ht (by decide) mF_X4_138 rfl dX4_tapeTold_63 ?_
    have qr : (cF C 9 t 5 : Int32) = ttC C t 3 := by simp [ttC]
    exact hE hW qr dX4_tapeTold_66
  · refine lv_tableOut (tgt := 67) hx hb dX4_tapeTold_13 wn (by decide) ?_
    refine lv_iconst (v := (-1)) hx hb dX4_tapeTold_67 (by decide) ?_
    have qr : ((-1) : Int32) = ttC C t w := by simp [ttC, w0, w1, w2, w3]
    exact hE hW qr dX4_tapeTold_68

set_option maxHeartbeats 4000000 in
set_option maxRecDepth 100000 in
theorem c_dt_b (l : Launch) (G : GG) (C : CS) (M : MS) {x : Int32} (hbx : badT 3 x) (z : Int32) : Ct l G yX4_driveTold cX4_driveTold 4 (some .int) 1 21 [.ref (zad G 0 0), .int x, .int z] C M (some (.int (-1))) C M := by
  refine Ct_i (by decide) (Nat.le_of_ble_eq_true rfl) (fun {p e s m args below meth c A Q ls} hC hW hl hE => ?_)
  have hx := hC.1
  have hb := hC.2.1
  have hl : lv_has ls 4 [(0, .ref (zad G 0 0)), (1, .int x), (2, .int z)] := hl
  refine lv_aload_n hx hb dX4_driveTold_0 rfl (lv_at hl 0 rfl) ?_
  refine lv_iload_n hx hb dX4_driveTold_1 rfl (lv_at hl 1 rfl) ?_
  refine z_callV (As := [.int x]) (rest := []) (st1 := [.null]) hC hW LL_0 rfl rfl rfl (c_X4_findDrive_n l G C M (x := x) hbx) mw_X4_findDrive mv_X4_findDrive mM_X4_102 ⟨Nat.le_of_ble_eq_true rfl, Nat.le_of_ble_eq_true rfl⟩ rfl rfl hl.1 (lv_room (Nat.le_of_ble_eq_true rfl)) dX4_driveTold_2 rfl (fun H locs hW => ?_) ⟨Nat.zero_le _, Nat.zero_le _⟩
  refine lv_astore_nN (lv' := [(3, .null), (0, .ref (zad G 0 0)), (1, .int x), (2, .int z)]) hx hb dX4_driveTold_5 rfl hl (by decide) rfl (fun ls hl => ?_)
  refine lv_aload_nN hx hb dX4_driveTold_6 rfl (lv_at hl 0 rfl) ?_
  refine lv_ifnonnullN hx hb dX4_driveTold_7 ?_
  refine lv_iconst (v := (-1)) hx hb dX4_driveTold_10 (by decide) ?_
  have qr : ((-1) : Int32) = -1 := by simp [bI, cF_sF, cN_sN, cB_sB, cM_sM, cN_sF, cB_sF, cM_sF, cF_sN, cB_sN, cM_sN, cF_sB, cN_sB, cM_sB, cF_sM, cN_sM, cB_sM, mF_smF, mA_smF, mF_smA, mA_smA]
  exact hE hW qr dX4_driveTold_11

set_option maxHeartbeats 4000000 in
set_option maxRecDepth 100000 in
theorem c_dt_1 (l : Launch) (G : GG) (C : CS) (M : MS) {d : Nat} (hd : d < 3) (w : Int32) : Ct l G yX4_driveTold cX4_driveTold 4 (some .int) 1 21 [.ref (zad G 0 0), .int (nI d), .int w] C M (some (.int (dtC C d w))) C M := by
  refine Ct_i (by decide) (Nat.le_of_ble_eq_true rfl) (fun {p e s m args below meth c A Q ls} hC hW hl hE => ?_)
  have hx := hC.1
  have hb := hC.2.1
  have hl : lv_has ls 4 [(0, .ref (zad G 0 0)), (1, .int (nI d)), (2, .int w)] := hl
  refine lv_aload_n hx hb dX4_driveTold_0 rfl (lv_at hl 0 rfl) ?_
  refine lv_iload_n hx hb dX4_driveTold_1 rfl (lv_at hl 1 rfl) ?_
  refine z_callV (As := [.int (nI d)]) (rest := []) (st1 := [.ref (zad G 3 d)]) hC hW LL_0 rfl rfl rfl (c_X4_findDrive l G C M (d := d) hd) mw_X4_findDrive mv_X4_findDrive mM_X4_102 ⟨Nat.le_of_ble_eq_true rfl, Nat.le_of_ble_eq_true rfl⟩ rfl rfl hl.1 (lv_room (Nat.le_of_ble_eq_true rfl)) dX4_driveTold_2 rfl (fun H locs hW => ?_) ⟨Nat.zero_le _, Nat.zero_le _⟩
  refine lv_astore_n (lv' := [(3, .ref (zad G 3 d)), (0, .ref (zad G 0 0)), (1, .int (nI d)), (2, .int w)]) hx hb dX4_driveTold_5 rfl hl (by decide) rfl (fun ls hl => ?_)
  refine lv_aload_n hx hb dX4_driveTold_6 rfl (lv_at hl 0 rfl) ?_
  refine lv_ifnonnull (tgt := 12) hx hb dX4_driveTold_7 (by decide) ?_
  refine lv_iload_n hx hb dX4_driveTold_12 rfl (lv_at hl 3 rfl) ?_
  rcases sw3 w with rfl | rfl | rfl | ⟨w0, w1, w2, wn⟩
  · refine lv_tableIn (off := 27) (tgt := 40) hx hb dX4_driveTold_13 (by decide) (by decide) (by decide) (by decide) ?_
    refine lv_aload_n hx hb dX4_driveTold_40 rfl (lv_at hl 0 rfl) ?_
    refine g3 (k := 2) (v := .int (cF C 3 d 2)) hC hW hd (by decide) mF_X4_141 rfl dX4_driveTold_41 ?_
    have qr : (cF C 3 d 2 : Int32) = dtC C d 0 := by simp [dtC]
    exact hE hW qr dX4_driveTold_44
  · refine lv_tableIn (off := 32) (tgt := 45) hx hb dX4_driveTold_13 (by decide) (by decide) (by decide) (by decide) ?_
    refine lv_aload_n hx hb dX4_driveTold_45 rfl (lv_at hl 0 rfl) ?_
    refine g3 (k := 3) (v := .int (cF C 3 d 3)) hC hW hd (by decide) mF_X4_144 rfl dX4_driveTold_46 ?_
    have qr : (cF C 3 d 3 : Int32) = dtC C d 1 := by simp [dtC]
    exact hE hW qr dX4_driveTold_49
  · refine lv_tableIn (off := 37) (tgt := 50) hx hb dX4_driveTold_13 (by decide) (by decide) (by decide) (by decide) ?_
    refine lv_aload_n hx hb dX4_driveTold_50 rfl (lv_at hl 0 rfl) ?_
    refine g3 (k := 4) (v := .int (cF C 3 d 4)) hC hW hd (by decide) mF_X4_106 rfl dX4_driveTold_51 ?_
    refine lv_if_eq (tgt := 61) hx hb dX4_driveTold_54 (by decide) (fun h54 => ?_) (fun h54 => ?_)
    · refine lv_iconst (v := 0) hx hb dX4_driveTold_61 (by decide) ?_
      have qr : (0 : Int32) = dtC C d 2 := by simp [dtC, h54]
      exact hE hW qr dX4_driveTold_62
    · refine lv_iconst (v := 1) hx hb dX4_driveTold_57 (by decide) ?_
      refine lv_goto (tgt := 62) hx hb dX4_driveTold_58 (by decide) ?_
      have qr : (1 : Int32) = dtC C d 2 := by simp [dtC, h54]
      exact hE hW qr dX4_driveTold_62
  · refine lv_tableOut (tgt := 63) hx hb dX4_driveTold_13 wn (by decide) ?_
    refine lv_iconst (v := (-1)) hx hb dX4_driveTold_63 (by decide) ?_
    have qr : ((-1) : Int32) = dtC C d w := by simp [dtC, w0, w1, w2]
    exact hE hW qr dX4_driveTold_64

set_option maxHeartbeats 4000000 in
set_option maxRecDepth 100000 in
theorem c_X4_told (l : Launch) (G : GG) (C : CS) (M : MS) (w : Int32) : Ct l G yX4_told cX4_told 2 (some .int) 0 0 [.ref (zad G 0 0), .int w] C M (some (.int (toT C w))) C M := by
  refine Ct_i (by decide) (Nat.le_of_ble_eq_true rfl) (fun {p e s m args below meth c A Q ls} hC hW hl hE => ?_)
  have hx := hC.1
  have hb := hC.2.1
  have hl : lv_has ls 2 [(0, .ref (zad G 0 0)), (1, .int w)] := hl
  refine lv_iload_n hx hb dX4_told_0 rfl (lv_at hl 1 rfl) ?_
  rcases sw5 w with rfl | rfl | rfl | rfl | rfl | ⟨w0, w1, w2, w3, w4, wn⟩
  · refine lv_tableIn (off := 35) (tgt := 36) hx hb dX4_told_1 (by decide) (by decide) (by decide) (by decide) ?_
    refine lv_aload_n hx hb dX4_told_36 rfl (lv_at hl 0 rfl) ?_
    refine g0 (k := 0) (v := .ref (zad G 1 0)) hC hW (by decide) mF_X4_10 rfl dX4_told_37 ?_
    refine g1 (k := 0) (v := .int (cF C 1 0 0)) hC hW (by decide) mF_X4_147 rfl dX4_told_40 ?_
    have qr : (cF C 1 0 0 : Int32) = toT C 0 := by simp [toT]
    exact hE hW qr dX4_told_43
  · refine lv_tableIn (off := 43) (tgt := 44) hx hb dX4_told_1 (by decide) (by decide) (by decide) (by decide) ?_
    refine lv_aload_n hx hb dX4_told_44 rfl (lv_at hl 0 rfl) ?_
    refine g0 (k := 0) (v := .ref (zad G 1 0)) hC hW (by decide) mF_X4_10 rfl dX4_told_45 ?_
    refine g1 (k := 1) (v := .int (cF C 1 0 1)) hC hW (by decide) mF_X4_150 rfl dX4_told_48 ?_
    have qr : (cF C 1 0 1 : Int32) = toT C 1 := by simp [toT]
    exact hE hW qr dX4_told_51
  · refine lv_tableIn (off := 51) (tgt := 52) hx hb dX4_told_1 (by decide) (by decide) (by decide) (by decide) ?_
    refine lv_aload_n hx hb dX4_told_52 rfl (lv_at hl 0 rfl) ?_
    refine g0 (k := 5) (v := .int (cF C 0 0 5)) hC hW (by decide) mF_X4_153 rfl dX4_told_53 ?_
    have qr : (cF C 0 0 5 : Int32) = toT C 2 := by simp [toT]
    exact hE hW qr dX4_told_56
  · refine lv_tableIn (off := 56) (tgt := 57) hx hb dX4_told_1 (by decide) (by decide) (by decide) (by decide) ?_
    refine lv_aload_n hx hb dX4_told_57 rfl (lv_at hl 0 rfl) ?_
    refine g0 (k := 6) (v := .int (cF C 0 0 6)) hC hW (by decide) mF_X4_156 rfl dX4_told_58 ?_
    have qr : (cF C 0 0 6 : Int32) = toT C 3 := by simp [toT]
    exact hE hW qr dX4_told_61
  · refine lv_tableIn (off := 61) (tgt := 62) hx hb dX4_told_1 (by decide) (by decide) (by decide) (by decide) ?_
    refine lv_aload_n hx hb dX4_told_62 rfl (lv_at hl 0 rfl) ?_
    refine g0 (k := 0) (v := .ref (zad G 1 0)) hC hW (by decide) mF_X4_10 rfl dX4_told_63 ?_
    refine g1 (k := 2) (v := .int (cF C 1 0 2)) hC hW (by decide) mF_X4_114 rfl dX4_told_66 ?_
    have qr : (cF C 1 0 2 : Int32) = toT C 4 := by simp [toT]
    exact hE hW qr dX4_told_69
  · refine lv_tableOut (tgt := 70) hx hb dX4_told_1 wn (by decide) ?_
    refine lv_iconst (v := (-1)) hx hb dX4_told_70 (by decide) ?_
    have qr : ((-1) : Int32) = toT C w := by simp [toT, w0, w1, w2, w3, w4]
    exact hE hW qr dX4_told_71

set_option maxHeartbeats 4000000 in
set_option maxRecDepth 100000 in
theorem c_X4_fold (l : Launch) (G : GG) (C : CS) (M : MS)  : Ct l G yX4_fold cX4_fold 1 (some .int) 0 0 [.ref (zad G 0 0)] C M (some (.int (cF C 0 0 7))) C M := by
  refine Ct_i (by decide) (Nat.le_of_ble_eq_true rfl) (fun {p e s m args below meth c A Q ls} hC hW hl hE => ?_)
  have hx := hC.1
  have hb := hC.2.1
  have hl : lv_has ls 1 [(0, .ref (zad G 0 0))] := hl
  refine lv_aload_n hx hb dX4_fold_0 rfl (lv_at hl 0 rfl) ?_
  refine g0 (k := 7) (v := .int (cF C 0 0 7)) hC hW (by decide) mF_X4_40 rfl dX4_fold_1 ?_
  exact hE hW rfl dX4_fold_4

theorem c_X4_tapeTold (l : Launch) (G : GG) (C : CS) (M : MS) (h12 : zn G ≤ 12) (x w : Int32) : Ct l G yX4_tapeTold cX4_tapeTold 4 (some .int) 1 21 [.ref (zad G 0 0), .int x, .int w] C M (some (.int (ttT (zn G) C x w))) C M := by
  unfold ttT
  rcases tape_cases h12 x with hb | ⟨t, ht, rfl, hb, htx⟩
  · rw [if_pos hb]; exact c_tt_b l G C M h12 hb w
  · rw [if_neg hb, htx]; exact c_tt_1 l G C M h12 ht w
theorem c_X4_driveTold (l : Launch) (G : GG) (C : CS) (M : MS) (x w : Int32) : Ct l G yX4_driveTold cX4_driveTold 4 (some .int) 1 21 [.ref (zad G 0 0), .int x, .int w] C M (some (.int (dtT C x w))) C M := by
  unfold dtT
  rcases drive_cases x with hb | ⟨d, hd, rfl, hb, hdx⟩
  · rw [if_pos hb]; exact c_dt_b l G C M hb w
  · rw [if_neg hb, hdx]; exact c_dt_1 l G C M hd w

set_option maxHeartbeats 4000000 in
set_option maxRecDepth 100000 in
theorem c_sta_n (l : Launch) (G : GG) (C : CS) (M : MS) {x : Int32} (hn : ¬ nameP x) (z sd sp : Int32) : Ct l G yX4_stage cX4_stage 6 (some .int) 2 43 [.ref (zad G 0 0), .int x, .int z, .int sd, .int sp] C M (some (.int (-1))) C M := by
  refine Ct_i (by decide) (Nat.le_of_ble_eq_true rfl) (fun {p e s m args below meth c A Q ls} hC hW hl hE => ?_)
  have hx := hC.1
  have hb := hC.2.1
  have hl : lv_has ls 6 [(0, .ref (zad G 0 0)), (1, .int x), (2, .int z), (3, .int sd), (4, .int sp)] := hl
  refine lv_iload_n hx hb dX4_stage_0 rfl (lv_at hl 1 rfl) ?_
  refine z_callS (rest := []) (st1 := [.int (bI (nameP x))]) hC hW (c_X4_isName l G C M x) mw_X4_isName mT_X4_isName mM_X4_52 ⟨Nat.le_of_ble_eq_true rfl, Nat.le_of_ble_eq_true rfl⟩ rfl rfl hl.1 (lv_room (Nat.le_of_ble_eq_true rfl)) dX4_stage_1 rfl (fun H locs hW => ?_) ⟨Nat.zero_le _, Nat.zero_le _⟩
  refine zb_eq (tgt := 18) hx hb (nameP x) rfl dX4_stage_4 (by decide) (fun h4 => ?_) (fun h4 => ?_)
  · refine lv_iconst (v := (-1)) hx hb dX4_stage_18 (by decide) ?_
    have qr : ((-1) : Int32) = -1 := by simp [bI, h4, cF_sF, cN_sN, cB_sB, cM_sM, cN_sF, cB_sF, cM_sF, cF_sN, cB_sN, cM_sN, cF_sB, cN_sB, cM_sB, cF_sM, cN_sM, cB_sM, mF_smF, mA_smF, mF_smA, mA_smA]
    exact hE hW qr dX4_stage_19
  · exact absurd h4 hn

set_option maxHeartbeats 4000000 in
set_option maxRecDepth 100000 in
theorem c_sta_s (l : Launch) (G : GG) (C : CS) (M : MS) {x : Int32} (hn : nameP x) {z : Int32} (hz : z < 1 ∨ 30 < z) (sd sp : Int32) : Ct l G yX4_stage cX4_stage 6 (some .int) 2 43 [.ref (zad G 0 0), .int x, .int z, .int sd, .int sp] C M (some (.int (-1))) C M := by
  refine Ct_i (by decide) (Nat.le_of_ble_eq_true rfl) (fun {p e s m args below meth c A Q ls} hC hW hl hE => ?_)
  have hx := hC.1
  have hb := hC.2.1
  have hl : lv_has ls 6 [(0, .ref (zad G 0 0)), (1, .int x), (2, .int z), (3, .int sd), (4, .int sp)] := hl
  refine lv_iload_n hx hb dX4_stage_0 rfl (lv_at hl 1 rfl) ?_
  refine z_callS (rest := []) (st1 := [.int (bI (nameP x))]) hC hW (c_X4_isName l G C M x) mw_X4_isName mT_X4_isName mM_X4_52 ⟨Nat.le_of_ble_eq_true rfl, Nat.le_of_ble_eq_true rfl⟩ rfl rfl hl.1 (lv_room (Nat.le_of_ble_eq_true rfl)) dX4_stage_1 rfl (fun H locs hW => ?_) ⟨Nat.zero_le _, Nat.zero_le _⟩
  refine zb_eq (tgt := 18) hx hb (nameP x) rfl dX4_stage_4 (by decide) (fun h4 => ?_) (fun h4 => ?_)
  · exact absurd hn h4
  · refine lv_iload_n hx hb dX4_stage_7 rfl (lv_at hl 2 rfl) ?_
    refine lv_iconst (v := 1) hx hb dX4_stage_8 (by decide) ?_
    refine lv_icmp_lt (tgt := 18) hx hb dX4_stage_9 (by decide) (fun h9 => ?_) (fun h9 => ?_)
    · refine lv_iconst (v := (-1)) hx hb dX4_stage_18 (by decide) ?_
      have qr : ((-1) : Int32) = -1 := by simp [bI, h4, h9, cF_sF, cN_sN, cB_sB, cM_sM, cN_sF, cB_sF, cM_sF, cF_sN, cB_sN, cM_sN, cF_sB, cN_sB, cM_sB, cF_sM, cN_sM, cB_sM, mF_smF, mA_smF, mF_smA, mA_smA]
      exact hE hW qr dX4_stage_19
    · refine lv_iload_n hx hb dX4_stage_12 rfl (lv_at hl 2 rfl) ?_
      refine lv_bipush (v := 30) hx hb dX4_stage_13 (by decide) ?_
      refine lv_icmp_le (tgt := 20) hx hb dX4_stage_15 (by decide) (fun h15 => ?_) (fun h15 => ?_)
      · exact absurd h15 (hz.elim (fun q => absurd q h9) (fun q => Int32.not_le.mpr q))
      · refine lv_iconst (v := (-1)) hx hb dX4_stage_18 (by decide) ?_
        have qr : ((-1) : Int32) = -1 := by simp [bI, h4, h9, h15, cF_sF, cN_sN, cB_sB, cM_sM, cN_sF, cB_sF, cM_sF, cF_sN, cB_sN, cM_sN, cF_sB, cN_sB, cM_sB, cF_sM, cN_sM, cB_sM, mF_smF, mA_smF, mF_smA, mA_smA]
        exact hE hW qr dX4_stage_19

theorem Iv_clr {C : CS} (hI : Iv C) : Iv (sN C 5 12 3 0) := by
  refine ⟨fun b => ?_, hI.2.1, fun t => ?_⟩
  · rw [cN_sN]; split
    · omega
    · exact hI.1 b
  · rw [cN_sN, if_neg (by omega)]; exact hI.2.2 t

set_option maxHeartbeats 4000000 in
set_option maxRecDepth 100000 in
theorem c_sta_1 (l : Launch) (G : GG) (C : CS) (M : MS) {x : Int32} (hn : nameP x) (hI : Iv C) {n : Nat} (h1 : 1 ≤ n) (h2 : n ≤ 30) (sd sp : Int32) : Ct l G yX4_stage cX4_stage 6 (some .int) 2 43 [.ref (zad G 0 0), .int x, .int (nI n), .int sd, .int sp] C M (some (.int (nI n))) (staC C x n sd sp) M := by
  refine Ct_i (by decide) (Nat.le_of_ble_eq_true rfl) (fun {p e s m args below meth c A Q ls} hC hW hl hE => ?_)
  have hx := hC.1
  have hb := hC.2.1
  have hl : lv_has ls 6 [(0, .ref (zad G 0 0)), (1, .int x), (2, .int (nI n)), (3, .int sd), (4, .int sp)] := hl
  refine lv_iload_n hx hb dX4_stage_0 rfl (lv_at hl 1 rfl) ?_
  refine z_callS (rest := []) (st1 := [.int (bI (nameP x))]) hC hW (c_X4_isName l G C M x) mw_X4_isName mT_X4_isName mM_X4_52 ⟨Nat.le_of_ble_eq_true rfl, Nat.le_of_ble_eq_true rfl⟩ rfl rfl hl.1 (lv_room (Nat.le_of_ble_eq_true rfl)) dX4_stage_1 rfl (fun H locs hW => ?_) ⟨Nat.zero_le _, Nat.zero_le _⟩
  refine zb_eq (tgt := 18) hx hb (nameP x) rfl dX4_stage_4 (by decide) (fun h4 => ?_) (fun h4 => ?_)
  · exact absurd hn h4
  · refine lv_iload_n hx hb dX4_stage_7 rfl (lv_at hl 2 rfl) ?_
    refine lv_iconst (v := 1) hx hb dX4_stage_8 (by decide) ?_
    refine zc_lt (i := n) (j := 1) (tgt := 18) hx hb rfl rfl (by omega) (by omega) dX4_stage_9 (by decide) (fun h9 => ?_) (fun h9 => ?_)
    · exact absurd h9 (by omega)
    · refine lv_iload_n hx hb dX4_stage_12 rfl (lv_at hl 2 rfl) ?_
      refine lv_bipush (v := 30) hx hb dX4_stage_13 (by decide) ?_
      refine zc_le (i := n) (j := 30) (tgt := 20) hx hb rfl rfl (by omega) (by omega) dX4_stage_15 (by decide) (fun h15 => ?_) (fun h15 => ?_)
      · refine lv_aload_n hx hb dX4_stage_20 rfl (lv_at hl 0 rfl) ?_
        refine g0 (k := 3) (v := .ref (zad G 5 12)) hC hW (by decide) mF_X4_36 rfl dX4_stage_21 ?_
        refine z_callV (As := []) (rest := []) (st1 := []) hC hW (LL_5 (Or.inr rfl)) rfl rfl rfl (c_X0_clear l G C M (b := 12) (Or.inr rfl)) mw_X0_clear mv_X0_clear mM_X4_55 ⟨Nat.le_of_ble_eq_true rfl, Nat.le_of_ble_eq_true rfl⟩ rfl rfl hl.1 (lv_room (Nat.le_of_ble_eq_true rfl)) dX4_stage_24 rfl (fun H locs hW => ?_) ⟨Nat.zero_le _, Nat.zero_le _⟩
        obtain ⟨C1, eC1⟩ : ∃ z, z = sN C 5 12 3 0 := ⟨_, rfl⟩
        rw [← eC1] at hW
        have hI1 : Iv C1 := by rw [eC1]; exact Iv_clr hI
        refine lv_aload_n hx hb dX4_stage_27 rfl (lv_at hl 0 rfl) ?_
        refine g0 (k := 3) (v := .ref (zad G 5 12)) hC hW (by decide) mF_X4_36 rfl dX4_stage_28 ?_
        refine lv_iconst (v := 1) hx hb dX4_stage_31 (by decide) ?_
        refine lv_iload_n hx hb dX4_stage_32 rfl (lv_at hl 1 rfl) ?_
        refine lv_iload_n hx hb dX4_stage_33 rfl (lv_at hl 2 rfl) ?_
        refine z_callV (As := [.int 1, .int x, .int (nI n)]) (rest := []) (st1 := []) hC hW (LL_5 (Or.inr rfl)) rfl rfl rfl (c_X0_add l G C1 M (b := 12) (Or.inr rfl) (hI1.1 12) 1 x (nI n)) mw_X0_add mv_X0_add mM_X4_58 ⟨Nat.le_of_ble_eq_true rfl, Nat.le_of_ble_eq_true rfl⟩ rfl rfl hl.1 (lv_room (Nat.le_of_ble_eq_true rfl)) dX4_stage_34 rfl (fun H locs hW => ?_) ⟨Nat.zero_le _, Nat.zero_le _⟩
        obtain ⟨C2, eC2⟩ : ∃ z, z = addC C1 12 1 x (nI n) := ⟨_, rfl⟩
        rw [← eC2] at hW
        refine lv_iconst (v := 0) hx hb dX4_stage_37 (by decide) ?_
        refine lv_istore (lv' := [(5, .int 0), (0, .ref (zad G 0 0)), (1, .int x), (2, .int (nI n)), (3, .int sd), (4, .int sp)]) hx hb dX4_stage_38 hl (by decide) rfl (fun ls hl => ?_)
        have lp : ∀ (k : Nat) (j : Nat) (Cj : CS), j + k = n → Iv Cj → stL sd sp k j Cj = stL sd sp n 0 (addC (sN C 5 12 3 0) 12 1 x (nI n)) → ∀ (H : Heap) (locs : List Loc) (ls : Array Slot), Wd G s A s.heap H locs Cj M → lv_has ls 6 [(0, .ref (zad G 0 0)), (1, .int x), (2, .int (nI n)), (3, .int sd), (4, .int sp), (5, .int (nI j))] → W p l e { frames := 2, cells := 0, slots := 0, locals := 43 } s m args below meth c H locs 0 0 Q (F0 m 40 ls []) := by
          intro k
          induction k with
          | zero =>
            intro j Cj hk hIj hD H locs ls hW hl
            refine lv_iload hx hb dX4_stage_40 (lv_at hl 5 rfl) ?_
            refine lv_iload_n hx hb dX4_stage_42 rfl (lv_at hl 2 rfl) ?_
            refine zc_ge (i := j) (j := n) (tgt := 68) hx hb rfl rfl (by omega) (by omega) dX4_stage_43 (by decide) (fun h43 => ?_) (fun h43 => ?_)
            · refine lv_aload_n hx hb dX4_stage_68 rfl (lv_at hl 0 rfl) ?_
              refine g0 (k := 3) (v := .ref (zad G 5 12)) hC hW (by decide) mF_X4_36 rfl dX4_stage_69 ?_
              refine lv_iconst (v := 3) hx hb dX4_stage_72 (by decide) ?_
              refine lv_iconst (v := 0) hx hb dX4_stage_73 (by decide) ?_
              refine lv_iconst (v := 0) hx hb dX4_stage_74 (by decide) ?_
              refine z_callV (As := [.int 3, .int 0, .int 0]) (rest := []) (st1 := []) hC hW (LL_5 (Or.inr rfl)) rfl rfl rfl (c_X0_add l G Cj M (b := 12) (Or.inr rfl) (hIj.1 12) 3 0 0) mw_X0_add mv_X0_add mM_X4_58 ⟨Nat.le_of_ble_eq_true rfl, Nat.le_of_ble_eq_true rfl⟩ rfl rfl hl.1 (lv_room (Nat.le_of_ble_eq_true rfl)) dX4_stage_75 rfl (fun H locs hW => ?_) ⟨Nat.zero_le _, Nat.zero_le _⟩
              obtain ⟨C3, eC3⟩ : ∃ z, z = addC Cj 12 3 0 0 := ⟨_, rfl⟩
              rw [← eC3] at hW
              refine lv_iload_n hx hb dX4_stage_78 rfl (lv_at hl 2 rfl) ?_
              have hD2 : staC C x n sd sp = C3 := by unfold staC; rw [← hD, eC3]; rfl
              rw [hD2] at hE
              exact hE hW rfl dX4_stage_79
            · exact absurd h43 (by omega)
          | succ k ih =>
            intro j Cj hk hIj hD H locs ls hW hl
            refine lv_iload hx hb dX4_stage_40 (lv_at hl 5 rfl) ?_
            refine lv_iload_n hx hb dX4_stage_42 rfl (lv_at hl 2 rfl) ?_
            refine zc_ge (i := j) (j := n) (tgt := 68) hx hb rfl rfl (by omega) (by omega) dX4_stage_43 (by decide) (fun h43 => ?_) (fun h43 => ?_)
            · exact absurd h43 (by omega)
            · refine lv_aload_n hx hb dX4_stage_46 rfl (lv_at hl 0 rfl) ?_
              refine g0 (k := 3) (v := .ref (zad G 5 12)) hC hW (by decide) mF_X4_36 rfl dX4_stage_47 ?_
              refine lv_iconst (v := 2) hx hb dX4_stage_50 (by decide) ?_
              refine lv_iload_n hx hb dX4_stage_51 rfl (lv_at hl 3 rfl) ?_
              refine lv_iload hx hb dX4_stage_52 (lv_at hl 5 rfl) ?_
              refine lv_iload hx hb dX4_stage_54 (lv_at hl 4 rfl) ?_
              refine lv_imul hx hb dX4_stage_56 ?_
              refine lv_iadd hx hb dX4_stage_57 ?_
              refine lv_iconst (v := 0) hx hb dX4_stage_58 (by decide) ?_
              refine z_callV (As := [.int 2, .int (sd + ((nI j) * sp)), .int 0]) (rest := []) (st1 := []) hC hW (LL_5 (Or.inr rfl)) rfl rfl rfl (c_X0_add l G Cj M (b := 12) (Or.inr rfl) (hIj.1 12) 2 (sd + ((nI j) * sp)) 0) mw_X0_add mv_X0_add mM_X4_58 ⟨Nat.le_of_ble_eq_true rfl, Nat.le_of_ble_eq_true rfl⟩ rfl rfl hl.1 (lv_room (Nat.le_of_ble_eq_true rfl)) dX4_stage_59 rfl (fun H locs hW => ?_) ⟨Nat.zero_le _, Nat.zero_le _⟩
              obtain ⟨C4, eC4⟩ : ∃ z, z = addC Cj 12 2 (sd + ((nI j) * sp)) 0 := ⟨_, rfl⟩
              rw [← eC4] at hW
              refine lv_iinc (k := 5) (v := nI (j + 1)) (lv' := [(5, .int (nI (j + 1))), (0, .ref (zad G 0 0)), (1, .int x), (2, .int (nI n)), (3, .int sd), (4, .int sp)]) hx hb dX4_stage_62 hl rfl (nI_inc _) (by decide) rfl (fun ls hl => ?_)
              refine lv_goto (tgt := 40) hx hb dX4_stage_65 (by decide) ?_
              exact ih (j + 1) C4 (by omega) (by rw [eC4]; exact Iv_add hIj ⟨rfl, by decide⟩) (by rw [← hD, stL, eC4]) _ _ _ hW (lv_sub hl [1, 2, 3, 4, 5, 0] rfl)
        exact lp n 0 C2 (by omega) (by rw [eC2]; exact Iv_add hI1 ⟨by rw [nI_clamp (by omega)], by rw [nI_clamp (by omega)]; omega⟩) (by rw [eC2, eC1]) _ _ _ hW (lv_sub hl [1, 2, 3, 4, 5, 0] rfl)
      · exact absurd h15 (by omega)

theorem c_X4_stage (l : Launch) (G : GG) (C : CS) (M : MS) (hI : Iv C) (x z sd sp : Int32) : Ct l G yX4_stage cX4_stage 6 (some .int) 2 43 [.ref (zad G 0 0), .int x, .int z, .int sd, .int sp] C M (some (.int (staT C x z sd sp).1)) (staT C x z sd sp).2 M := by
  unfold staT
  by_cases hn : nameP x
  · rw [if_pos hn]
    by_cases hz : z < 1 ∨ 30 < z
    · rw [if_pos hz]; exact c_sta_s l G C M hn hz sd sp
    · rw [if_neg hz]
      rcases pk_ix z (n := 31) (by decide) with q | q | ⟨n, h31, rfl⟩
      · exact absurd (Or.inl (Int32.lt_trans q (by decide))) hz
      · exact absurd (Or.inr (Int32.lt_of_lt_of_le (by decide) q)) hz
      · have h1 : 1 ≤ n := by
          refine Nat.pos_of_ne_zero (fun q => hz (Or.inl ?_)); subst q; decide
        rw [tN_nI (show n < 2 ^ 31 by omega)]
        exact c_sta_1 l G C M hn hI h1 (by omega) sd sp
  · rw [if_neg hn]; exact c_sta_n l G C M hn z sd sp

