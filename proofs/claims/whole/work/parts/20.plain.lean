/-! ===== the reference: its plain calls ===== -/
def mstg (M : MS) (x z sd st : Int32) : MS := smF (smF (smF (smF M 20 x) 21 z) 22 sd) 23 st
def mdmL (t a : Nat) : Nat → Nat → Nat → MS → Nat × MS
  | 0, _, n, M => (n, M)
  | k + 1, i, n, M => mdmL t a k (i + 1) (if mA M 8 (100 * t + a + i) = 0 then n + 1 else n) (smA M 8 (100 * t + a + i) 1)
def mblo (M : MS) (a : Nat) (w : Int32) : Int32 := if w = 0 then mA M 5 a else if w = 1 then mA M 6 a else if w = 2 then mA M 7 a else bI (mA M 8 a ≠ 0)
def mtt (M : MS) (t : Nat) (w : Int32) : Int32 := if w = 0 then mA M 1 t else if w = 1 then mA M 2 t else if w = 2 then mA M 3 t else mA M 4 t
def mdt (M : MS) (d : Nat) (w : Int32) : Int32 := if w = 0 then mA M 13 d else if w = 1 then mA M 14 d else bI (mA M 11 d ≠ 0)
def mto (M : MS) (w : Int32) : Int32 := if w = 0 then mF M 25 else if w = 1 then mF M 26 else if w = 2 then mF M 27 else if w = 3 then mF M 28 else if w = 4 then mF M 29 else -1
theorem inP_drv (x : Int32) : inP x 0 2 ↔ ¬ badT 3 x := inP_tape (n := 3) (by decide) x
theorem inP_plc (x : Int32) : inP x 0 99 ↔ placeP x := by
  have h1 : (99 : Int32).toInt = 99 := rfl
  have h2 : (100 : Int32).toInt = 100 := rfl
  have h3 : (0 : Int32).toInt = 0 := rfl
  simp only [inP, placeP, Int32.lt_iff_toInt_lt, Int32.le_iff_toInt_le, h1, h2, h3]
  omega

set_option maxHeartbeats 4000000 in
set_option maxRecDepth 100000 in
theorem m_sta_n (l : Launch) (G : GG) (C : CS) (M : MS) {x : Int32} (hn : ¬ nameP x) (z sd sp : Int32) : Ct l G yX5_stage cX5_stage 5 (some .int) 2 42 [.ref (zad G 12 0), .int x, .int z, .int sd, .int sp] C M (some (.int (-1))) C M := by
  refine Ct_i (by decide) (Nat.le_of_ble_eq_true rfl) (fun {p e s m args below meth c A Q ls} hC hW hl hE => ?_)
  have hx := hC.1
  have hb := hC.2.1
  have hl : lv_has ls 5 [(0, .ref (zad G 12 0)), (1, .int x), (2, .int z), (3, .int sd), (4, .int sp)] := hl
  refine lv_iload_n hx hb dX5_stage_0 rfl (lv_at hl 1 rfl) ?_
  refine z_callS (rest := []) (st1 := [.int (bI (nameP x))]) hC hW (c_X5_isName l G C M x) mw_X5_isName mT_X5_isName mM_X5_113 ⟨Nat.le_of_ble_eq_true rfl, Nat.le_of_ble_eq_true rfl⟩ rfl rfl hl.1 (lv_room (Nat.le_of_ble_eq_true rfl)) dX5_stage_1 rfl (fun H locs hW => ?_) ⟨Nat.zero_le _, Nat.zero_le _⟩
  refine zb_eq (tgt := 17) hx hb (nameP x) rfl dX5_stage_4 (by decide) (fun h4 => ?_) (fun h4 => ?_)
  · refine lv_iconst (v := (-1)) hx hb dX5_stage_17 (by decide) ?_
    have qr : ((-1) : Int32) = -1 := by simp [bI, h4, cF_sF, cN_sN, cB_sB, cM_sM, cN_sF, cB_sF, cM_sF, cF_sN, cB_sN, cM_sN, cF_sB, cN_sB, cM_sB, cF_sM, cN_sM, cB_sM, mF_smF, mA_smF, mF_smA, mA_smA]
    exact hE hW qr dX5_stage_18
  · exact absurd h4 hn

set_option maxHeartbeats 4000000 in
set_option maxRecDepth 100000 in
theorem m_sta_s (l : Launch) (G : GG) (C : CS) (M : MS) {x : Int32} (hn : nameP x) {z : Int32} (hz : ¬ inP z 1 30) (sd sp : Int32) : Ct l G yX5_stage cX5_stage 5 (some .int) 2 42 [.ref (zad G 12 0), .int x, .int z, .int sd, .int sp] C M (some (.int (-1))) C M := by
  refine Ct_i (by decide) (Nat.le_of_ble_eq_true rfl) (fun {p e s m args below meth c A Q ls} hC hW hl hE => ?_)
  have hx := hC.1
  have hb := hC.2.1
  have hl : lv_has ls 5 [(0, .ref (zad G 12 0)), (1, .int x), (2, .int z), (3, .int sd), (4, .int sp)] := hl
  refine lv_iload_n hx hb dX5_stage_0 rfl (lv_at hl 1 rfl) ?_
  refine z_callS (rest := []) (st1 := [.int (bI (nameP x))]) hC hW (c_X5_isName l G C M x) mw_X5_isName mT_X5_isName mM_X5_113 ⟨Nat.le_of_ble_eq_true rfl, Nat.le_of_ble_eq_true rfl⟩ rfl rfl hl.1 (lv_room (Nat.le_of_ble_eq_true rfl)) dX5_stage_1 rfl (fun H locs hW => ?_) ⟨Nat.zero_le _, Nat.zero_le _⟩
  refine zb_eq (tgt := 17) hx hb (nameP x) rfl dX5_stage_4 (by decide) (fun h4 => ?_) (fun h4 => ?_)
  · exact absurd hn h4
  · refine lv_iload_n hx hb dX5_stage_7 rfl (lv_at hl 2 rfl) ?_
    refine lv_iconst (v := 1) hx hb dX5_stage_8 (by decide) ?_
    refine lv_bipush (v := 30) hx hb dX5_stage_9 (by decide) ?_
    refine z_callS (rest := []) (st1 := [.int (bI (inP z 1 30))]) hC hW (c_X5_in l G C M z 1 30) mw_X5_in mT_X5_in mM_X5_78 ⟨Nat.le_of_ble_eq_true rfl, Nat.le_of_ble_eq_true rfl⟩ rfl rfl hl.1 (lv_room (Nat.le_of_ble_eq_true rfl)) dX5_stage_11 rfl (fun H locs hW => ?_) ⟨Nat.zero_le _, Nat.zero_le _⟩
    refine zb_ne (tgt := 19) hx hb (inP z 1 30) rfl dX5_stage_14 (by decide) (fun h14 => ?_) (fun h14 => ?_)
    · exact absurd h14 hz
    · refine lv_iconst (v := (-1)) hx hb dX5_stage_17 (by decide) ?_
      have qr : ((-1) : Int32) = -1 := by simp [bI, h4, h14, cF_sF, cN_sN, cB_sB, cM_sM, cN_sF, cB_sF, cM_sF, cF_sN, cB_sN, cM_sN, cF_sB, cN_sB, cM_sB, cF_sM, cN_sM, cB_sM, mF_smF, mA_smF, mF_smA, mA_smA]
      exact hE hW qr dX5_stage_18

set_option maxHeartbeats 4000000 in
set_option maxRecDepth 100000 in
theorem m_sta_1 (l : Launch) (G : GG) (C : CS) (M : MS) {x : Int32} (hn : nameP x) {z : Int32} (hz : inP z 1 30) (sd sp : Int32) : Ct l G yX5_stage cX5_stage 5 (some .int) 2 42 [.ref (zad G 12 0), .int x, .int z, .int sd, .int sp] C M (some (.int z)) C (mstg M x z sd sp) := by
  refine Ct_i (by decide) (Nat.le_of_ble_eq_true rfl) (fun {p e s m args below meth c A Q ls} hC hW hl hE => ?_)
  have hx := hC.1
  have hb := hC.2.1
  have hl : lv_has ls 5 [(0, .ref (zad G 12 0)), (1, .int x), (2, .int z), (3, .int sd), (4, .int sp)] := hl
  refine lv_iload_n hx hb dX5_stage_0 rfl (lv_at hl 1 rfl) ?_
  refine z_callS (rest := []) (st1 := [.int (bI (nameP x))]) hC hW (c_X5_isName l G C M x) mw_X5_isName mT_X5_isName mM_X5_113 ⟨Nat.le_of_ble_eq_true rfl, Nat.le_of_ble_eq_true rfl⟩ rfl rfl hl.1 (lv_room (Nat.le_of_ble_eq_true rfl)) dX5_stage_1 rfl (fun H locs hW => ?_) ⟨Nat.zero_le _, Nat.zero_le _⟩
  refine zb_eq (tgt := 17) hx hb (nameP x) rfl dX5_stage_4 (by decide) (fun h4 => ?_) (fun h4 => ?_)
  · exact absurd hn h4
  · refine lv_iload_n hx hb dX5_stage_7 rfl (lv_at hl 2 rfl) ?_
    refine lv_iconst (v := 1) hx hb dX5_stage_8 (by decide) ?_
    refine lv_bipush (v := 30) hx hb dX5_stage_9 (by decide) ?_
    refine z_callS (rest := []) (st1 := [.int (bI (inP z 1 30))]) hC hW (c_X5_in l G C M z 1 30) mw_X5_in mT_X5_in mM_X5_78 ⟨Nat.le_of_ble_eq_true rfl, Nat.le_of_ble_eq_true rfl⟩ rfl rfl hl.1 (lv_room (Nat.le_of_ble_eq_true rfl)) dX5_stage_11 rfl (fun H locs hW => ?_) ⟨Nat.zero_le _, Nat.zero_le _⟩
    refine zb_ne (tgt := 19) hx hb (inP z 1 30) rfl dX5_stage_14 (by decide) (fun h14 => ?_) (fun h14 => ?_)
    · refine lv_aload_n hx hb dX5_stage_19 rfl (lv_at hl 0 rfl) ?_
      refine lv_iload_n hx hb dX5_stage_20 rfl (lv_at hl 1 rfl) ?_
      refine p12 (k := 20) (v := x) hC hW (by decide) mF_X5_117 dX5_stage_21 (fun _ eS H locs hW => ?_)
      subst eS
      refine lv_aload_n hx hb dX5_stage_24 rfl (lv_at hl 0 rfl) ?_
      refine lv_iload_n hx hb dX5_stage_25 rfl (lv_at hl 2 rfl) ?_
      refine p12 (k := 21) (v := z) hC hW (by decide) mF_X5_120 dX5_stage_26 (fun _ eS H locs hW => ?_)
      subst eS
      refine lv_aload_n hx hb dX5_stage_29 rfl (lv_at hl 0 rfl) ?_
      refine lv_iload_n hx hb dX5_stage_30 rfl (lv_at hl 3 rfl) ?_
      refine p12 (k := 22) (v := sd) hC hW (by decide) mF_X5_123 dX5_stage_31 (fun _ eS H locs hW => ?_)
      subst eS
      refine lv_aload_n hx hb dX5_stage_34 rfl (lv_at hl 0 rfl) ?_
      refine lv_iload hx hb dX5_stage_35 (lv_at hl 4 rfl) ?_
      refine p12 (k := 23) (v := sp) hC hW (by decide) mF_X5_126 dX5_stage_37 (fun _ eS H locs hW => ?_)
      subst eS
      refine lv_iload_n hx hb dX5_stage_40 rfl (lv_at hl 2 rfl) ?_
      have qM : smF (smF (smF (smF M 20 x) 21 z) 22 sd) 23 sp = mstg M x z sd sp := by rfl
      rw [qM] at hW
      exact hE hW rfl dX5_stage_41
    · exact absurd hz h14

set_option maxHeartbeats 4000000 in
set_option maxRecDepth 100000 in
theorem m_los_b (l : Launch) (G : GG) (C : CS) (M : MS) {n : Nat} (hle : n ≤ 12) (hn : mF M 0 = nI n) {x : Int32} (hbx : badT n x) : Ct l G yX5_lose cX5_lose 2 (some .int) 2 43 [.ref (zad G 12 0), .int x] C M (some (.int (-1))) C M := by
  refine Ct_i (by decide) (Nat.le_of_ble_eq_true rfl) (fun {p e s m args below meth c A Q ls} hC hW hl hE => ?_)
  have hx := hC.1
  have hb := hC.2.1
  have hl : lv_has ls 2 [(0, .ref (zad G 12 0)), (1, .int x)] := hl
  refine lv_aload_n hx hb dX5_lose_0 rfl (lv_at hl 0 rfl) ?_
  refine lv_iload_n hx hb dX5_lose_1 rfl (lv_at hl 1 rfl) ?_
  refine z_callV (As := [.int x]) (rest := []) (st1 := [.int (bI (¬ badT n x))]) hC hW LL_12 rfl rfl rfl (c_X5_isTape l G C M hle hn x) mw_X5_isTape mv_X5_isTape mM_X5_129 ⟨Nat.le_of_ble_eq_true rfl, Nat.le_of_ble_eq_true rfl⟩ rfl rfl hl.1 (lv_room (Nat.le_of_ble_eq_true rfl)) dX5_lose_2 rfl (fun H locs hW => ?_) ⟨Nat.zero_le _, Nat.zero_le _⟩
  refine zb_eq (tgt := 16) hx hb (¬ badT n x) rfl dX5_lose_5 (by decide) (fun h5 => ?_) (fun h5 => ?_)
  · refine lv_iconst (v := (-1)) hx hb dX5_lose_16 (by decide) ?_
    have qr : ((-1) : Int32) = -1 := by simp [bI, h5, cF_sF, cN_sN, cB_sB, cM_sM, cN_sF, cB_sF, cM_sF, cF_sN, cB_sN, cM_sN, cF_sB, cN_sB, cM_sB, cF_sM, cN_sM, cB_sM, mF_smF, mA_smF, mF_smA, mA_smA]
    exact hE hW qr dX5_lose_17
  · exact absurd hbx h5

set_option maxHeartbeats 4000000 in
set_option maxRecDepth 100000 in
theorem m_los_1 (l : Launch) (G : GG) (C : CS) (M : MS) {n : Nat} (hle : n ≤ 12) (hn : mF M 0 = nI n) {t : Nat} (ht : t < n)  : Ct l G yX5_lose cX5_lose 2 (some .int) 2 43 [.ref (zad G 12 0), .int (nI t)] C M (some (.int (nI (fgL t 1000 0 0 M).1))) C ((fgL t 1000 0 0 M).2) := by
  refine Ct_i (by decide) (Nat.le_of_ble_eq_true rfl) (fun {p e s m args below meth c A Q ls} hC hW hl hE => ?_)
  have hx := hC.1
  have hb := hC.2.1
  have hl : lv_has ls 2 [(0, .ref (zad G 12 0)), (1, .int (nI t))] := hl
  refine lv_aload_n hx hb dX5_lose_0 rfl (lv_at hl 0 rfl) ?_
  refine lv_iload_n hx hb dX5_lose_1 rfl (lv_at hl 1 rfl) ?_
  refine z_callV (As := [.int (nI t)]) (rest := []) (st1 := [.int (bI (¬ badT n (nI t)))]) hC hW LL_12 rfl rfl rfl (c_X5_isTape l G C M hle hn (nI t)) mw_X5_isTape mv_X5_isTape mM_X5_129 ⟨Nat.le_of_ble_eq_true rfl, Nat.le_of_ble_eq_true rfl⟩ rfl rfl hl.1 (lv_room (Nat.le_of_ble_eq_true rfl)) dX5_lose_2 rfl (fun H locs hW => ?_) ⟨Nat.zero_le _, Nat.zero_le _⟩
  refine zb_eq (tgt := 16) hx hb (¬ badT n (nI t)) rfl dX5_lose_5 (by decide) (fun h5 => ?_) (fun h5 => ?_)
  · exact absurd (not_bad hle ht) h5
  · refine lv_aload_n hx hb dX5_lose_8 rfl (lv_at hl 0 rfl) ?_
    refine lv_iload_n hx hb dX5_lose_9 rfl (lv_at hl 1 rfl) ?_
    refine z_callV (As := [.int (nI t)]) (rest := []) (st1 := [.int (nI ((fgL t 1000 0 0 M).1))]) hC hW LL_12 rfl rfl rfl (c_X5_forget l G C M (t := t) (by omega)) mw_X5_forget mv_X5_forget mM_X5_163 ⟨Nat.le_of_ble_eq_true rfl, Nat.le_of_ble_eq_true rfl⟩ rfl rfl hl.1 (lv_room (Nat.le_of_ble_eq_true rfl)) dX5_lose_10 rfl (fun H locs hW => ?_) ⟨Nat.zero_le _, Nat.zero_le _⟩
    obtain ⟨M1, eM1⟩ : ∃ z_, z_ = (fgL t 1000 0 0 M).2 := ⟨_, rfl⟩
    rw [← eM1] at hW
    refine lv_goto (tgt := 17) hx hb dX5_lose_13 (by decide) ?_
    rw [eM1] at hW
    exact hE hW rfl dX5_lose_17

set_option maxHeartbeats 4000000 in
set_option maxRecDepth 100000 in
theorem m_dam_b (l : Launch) (G : GG) (C : CS) (M : MS) {n : Nat} (hle : n ≤ 12) (hn : mF M 0 = nI n) {x : Int32} (hbx : badT n x) (y z : Int32) : Ct l G yX5_damage cX5_damage 6 (some .int) 2 43 [.ref (zad G 12 0), .int x, .int y, .int z] C M (some (.int (-1))) C M := by
  refine Ct_i (by decide) (Nat.le_of_ble_eq_true rfl) (fun {p e s m args below meth c A Q ls} hC hW hl hE => ?_)
  have hx := hC.1
  have hb := hC.2.1
  have hl : lv_has ls 6 [(0, .ref (zad G 12 0)), (1, .int x), (2, .int y), (3, .int z)] := hl
  refine lv_aload_n hx hb dX5_damage_0 rfl (lv_at hl 0 rfl) ?_
  refine lv_iload_n hx hb dX5_damage_1 rfl (lv_at hl 1 rfl) ?_
  refine z_callV (As := [.int x]) (rest := []) (st1 := [.int (bI (¬ badT n x))]) hC hW LL_12 rfl rfl rfl (c_X5_isTape l G C M hle hn x) mw_X5_isTape mv_X5_isTape mM_X5_129 ⟨Nat.le_of_ble_eq_true rfl, Nat.le_of_ble_eq_true rfl⟩ rfl rfl hl.1 (lv_room (Nat.le_of_ble_eq_true rfl)) dX5_damage_2 rfl (fun H locs hW => ?_) ⟨Nat.zero_le _, Nat.zero_le _⟩
  refine zb_eq (tgt := 30) hx hb (¬ badT n x) rfl dX5_damage_5 (by decide) (fun h5 => ?_) (fun h5 => ?_)
  · refine lv_iconst (v := (-1)) hx hb dX5_damage_30 (by decide) ?_
    have qr : ((-1) : Int32) = -1 := by simp [bI, h5, cF_sF, cN_sN, cB_sB, cM_sM, cN_sF, cB_sF, cM_sF, cF_sN, cB_sN, cM_sN, cF_sB, cN_sB, cM_sB, cF_sM, cN_sM, cB_sM, mF_smF, mA_smF, mF_smA, mA_smA]
    exact hE hW qr dX5_damage_31
  · exact absurd hbx h5

set_option maxHeartbeats 4000000 in
set_option maxRecDepth 100000 in
theorem m_dam_p (l : Launch) (G : GG) (C : CS) (M : MS) {n : Nat} (hle : n ≤ 12) (hn : mF M 0 = nI n) {t : Nat} (ht : t < n) {y : Int32} (hp : ¬ inP y 0 99) (z : Int32) : Ct l G yX5_damage cX5_damage 6 (some .int) 2 43 [.ref (zad G 12 0), .int (nI t), .int y, .int z] C M (some (.int (-1))) C M := by
  refine Ct_i (by decide) (Nat.le_of_ble_eq_true rfl) (fun {p e s m args below meth c A Q ls} hC hW hl hE => ?_)
  have hx := hC.1
  have hb := hC.2.1
  have hl : lv_has ls 6 [(0, .ref (zad G 12 0)), (1, .int (nI t)), (2, .int y), (3, .int z)] := hl
  refine lv_aload_n hx hb dX5_damage_0 rfl (lv_at hl 0 rfl) ?_
  refine lv_iload_n hx hb dX5_damage_1 rfl (lv_at hl 1 rfl) ?_
  refine z_callV (As := [.int (nI t)]) (rest := []) (st1 := [.int (bI (¬ badT n (nI t)))]) hC hW LL_12 rfl rfl rfl (c_X5_isTape l G C M hle hn (nI t)) mw_X5_isTape mv_X5_isTape mM_X5_129 ⟨Nat.le_of_ble_eq_true rfl, Nat.le_of_ble_eq_true rfl⟩ rfl rfl hl.1 (lv_room (Nat.le_of_ble_eq_true rfl)) dX5_damage_2 rfl (fun H locs hW => ?_) ⟨Nat.zero_le _, Nat.zero_le _⟩
  refine zb_eq (tgt := 30) hx hb (¬ badT n (nI t)) rfl dX5_damage_5 (by decide) (fun h5 => ?_) (fun h5 => ?_)
  · exact absurd (not_bad hle ht) h5
  · refine lv_iload_n hx hb dX5_damage_8 rfl (lv_at hl 2 rfl) ?_
    refine lv_iconst (v := 0) hx hb dX5_damage_9 (by decide) ?_
    refine lv_bipush (v := 99) hx hb dX5_damage_10 (by decide) ?_
    refine z_callS (rest := []) (st1 := [.int (bI (inP y 0 99))]) hC hW (c_X5_in l G C M y 0 99) mw_X5_in mT_X5_in mM_X5_78 ⟨Nat.le_of_ble_eq_true rfl, Nat.le_of_ble_eq_true rfl⟩ rfl rfl hl.1 (lv_room (Nat.le_of_ble_eq_true rfl)) dX5_damage_12 rfl (fun H locs hW => ?_) ⟨Nat.zero_le _, Nat.zero_le _⟩
    refine zb_eq (tgt := 30) hx hb (inP y 0 99) rfl dX5_damage_15 (by decide) (fun h15 => ?_) (fun h15 => ?_)
    · refine lv_iconst (v := (-1)) hx hb dX5_damage_30 (by decide) ?_
      have qr : ((-1) : Int32) = -1 := by simp [bI, h5, h15, cF_sF, cN_sN, cB_sB, cM_sM, cN_sF, cB_sF, cM_sF, cF_sN, cB_sN, cM_sN, cF_sB, cN_sB, cM_sB, cF_sM, cN_sM, cB_sM, mF_smF, mA_smF, mF_smA, mA_smA]
      exact hE hW qr dX5_damage_31
    · exact absurd h15 hp

set_option maxHeartbeats 4000000 in
set_option maxRecDepth 100000 in
theorem m_dam_n (l : Launch) (G : GG) (C : CS) (M : MS) {n : Nat} (hle : n ≤ 12) (hn : mF M 0 = nI n) {t : Nat} (ht : t < n) {a : Nat} (ha : a < 100) (hp : inP (nI a) 0 99) {z : Int32} (hz : ¬ inP z 1 (nI (100 - a))) : Ct l G yX5_damage cX5_damage 6 (some .int) 2 43 [.ref (zad G 12 0), .int (nI t), .int (nI a), .int z] C M (some (.int (-1))) C M := by
  refine Ct_i (by decide) (Nat.le_of_ble_eq_true rfl) (fun {p e s m args below meth c A Q ls} hC hW hl hE => ?_)
  have hx := hC.1
  have hb := hC.2.1
  have hl : lv_has ls 6 [(0, .ref (zad G 12 0)), (1, .int (nI t)), (2, .int (nI a)), (3, .int z)] := hl
  refine lv_aload_n hx hb dX5_damage_0 rfl (lv_at hl 0 rfl) ?_
  refine lv_iload_n hx hb dX5_damage_1 rfl (lv_at hl 1 rfl) ?_
  refine z_callV (As := [.int (nI t)]) (rest := []) (st1 := [.int (bI (¬ badT n (nI t)))]) hC hW LL_12 rfl rfl rfl (c_X5_isTape l G C M hle hn (nI t)) mw_X5_isTape mv_X5_isTape mM_X5_129 ⟨Nat.le_of_ble_eq_true rfl, Nat.le_of_ble_eq_true rfl⟩ rfl rfl hl.1 (lv_room (Nat.le_of_ble_eq_true rfl)) dX5_damage_2 rfl (fun H locs hW => ?_) ⟨Nat.zero_le _, Nat.zero_le _⟩
  refine zb_eq (tgt := 30) hx hb (¬ badT n (nI t)) rfl dX5_damage_5 (by decide) (fun h5 => ?_) (fun h5 => ?_)
  · exact absurd (not_bad hle ht) h5
  · refine lv_iload_n hx hb dX5_damage_8 rfl (lv_at hl 2 rfl) ?_
    refine lv_iconst (v := 0) hx hb dX5_damage_9 (by decide) ?_
    refine lv_bipush (v := 99) hx hb dX5_damage_10 (by decide) ?_
    refine z_callS (rest := []) (st1 := [.int (bI (inP (nI a) 0 99))]) hC hW (c_X5_in l G C M (nI a) 0 99) mw_X5_in mT_X5_in mM_X5_78 ⟨Nat.le_of_ble_eq_true rfl, Nat.le_of_ble_eq_true rfl⟩ rfl rfl hl.1 (lv_room (Nat.le_of_ble_eq_true rfl)) dX5_damage_12 rfl (fun H locs hW => ?_) ⟨Nat.zero_le _, Nat.zero_le _⟩
    refine zb_eq (tgt := 30) hx hb (inP (nI a) 0 99) rfl dX5_damage_15 (by decide) (fun h15 => ?_) (fun h15 => ?_)
    · exact absurd hp h15
    · refine lv_iload_n hx hb dX5_damage_18 rfl (lv_at hl 3 rfl) ?_
      refine lv_iconst (v := 1) hx hb dX5_damage_19 (by decide) ?_
      refine lv_bipush (v := 100) hx hb dX5_damage_20 (by decide) ?_
      refine lv_iload_n hx hb dX5_damage_22 rfl (lv_at hl 2 rfl) ?_
      refine zi_sub (i := 100) (j := a) hx hb rfl rfl (by omega) dX5_damage_23 ?_
      refine z_callS (rest := []) (st1 := [.int (bI (inP z 1 (nI (100 - a))))]) hC hW (c_X5_in l G C M z 1 (nI (100 - a))) mw_X5_in mT_X5_in mM_X5_78 ⟨Nat.le_of_ble_eq_true rfl, Nat.le_of_ble_eq_true rfl⟩ rfl rfl hl.1 (lv_room (Nat.le_of_ble_eq_true rfl)) dX5_damage_24 rfl (fun H locs hW => ?_) ⟨Nat.zero_le _, Nat.zero_le _⟩
      refine zb_ne (tgt := 32) hx hb (inP z 1 (nI (100 - a))) rfl dX5_damage_27 (by decide) (fun h27 => ?_) (fun h27 => ?_)
      · exact absurd h27 hz
      · refine lv_iconst (v := (-1)) hx hb dX5_damage_30 (by decide) ?_
        have qr : ((-1) : Int32) = -1 := by simp [bI, h5, h15, h27, cF_sF, cN_sN, cB_sB, cM_sM, cN_sF, cB_sF, cM_sF, cF_sN, cB_sN, cM_sN, cF_sB, cN_sB, cM_sB, cF_sM, cN_sM, cB_sM, mF_smF, mA_smF, mF_smA, mA_smA]
        exact hE hW qr dX5_damage_31

set_option maxHeartbeats 4000000 in
set_option maxRecDepth 100000 in
theorem m_dam_1 (l : Launch) (G : GG) (C : CS) (M : MS) {n : Nat} (hle : n ≤ 12) (hn : mF M 0 = nI n) {t : Nat} (ht : t < n) {a nz : Nat} (ha : a < 100) (hp : inP (nI a) 0 99) (hm : nz ≤ 100 - a) (hz : inP (nI nz) 1 (nI (100 - a))) : Ct l G yX5_damage cX5_damage 6 (some .int) 2 43 [.ref (zad G 12 0), .int (nI t), .int (nI a), .int (nI nz)] C M (some (.int (nI (mdmL t a nz 0 0 M).1))) C ((mdmL t a nz 0 0 M).2) := by
  refine Ct_i (by decide) (Nat.le_of_ble_eq_true rfl) (fun {p e s m args below meth c A Q ls} hC hW hl hE => ?_)
  have hx := hC.1
  have hb := hC.2.1
  have hl : lv_has ls 6 [(0, .ref (zad G 12 0)), (1, .int (nI t)), (2, .int (nI a)), (3, .int (nI nz))] := hl
  refine lv_aload_n hx hb dX5_damage_0 rfl (lv_at hl 0 rfl) ?_
  refine lv_iload_n hx hb dX5_damage_1 rfl (lv_at hl 1 rfl) ?_
  refine z_callV (As := [.int (nI t)]) (rest := []) (st1 := [.int (bI (¬ badT n (nI t)))]) hC hW LL_12 rfl rfl rfl (c_X5_isTape l G C M hle hn (nI t)) mw_X5_isTape mv_X5_isTape mM_X5_129 ⟨Nat.le_of_ble_eq_true rfl, Nat.le_of_ble_eq_true rfl⟩ rfl rfl hl.1 (lv_room (Nat.le_of_ble_eq_true rfl)) dX5_damage_2 rfl (fun H locs hW => ?_) ⟨Nat.zero_le _, Nat.zero_le _⟩
  refine zb_eq (tgt := 30) hx hb (¬ badT n (nI t)) rfl dX5_damage_5 (by decide) (fun h5 => ?_) (fun h5 => ?_)
  · exact absurd (not_bad hle ht) h5
  · refine lv_iload_n hx hb dX5_damage_8 rfl (lv_at hl 2 rfl) ?_
    refine lv_iconst (v := 0) hx hb dX5_damage_9 (by decide) ?_
    refine lv_bipush (v := 99) hx hb dX5_damage_10 (by decide) ?_
    refine z_callS (rest := []) (st1 := [.int (bI (inP (nI a) 0 99))]) hC hW (c_X5_in l G C M (nI a) 0 99) mw_X5_in mT_X5_in mM_X5_78 ⟨Nat.le_of_ble_eq_true rfl, Nat.le_of_ble_eq_true rfl⟩ rfl rfl hl.1 (lv_room (Nat.le_of_ble_eq_true rfl)) dX5_damage_12 rfl (fun H locs hW => ?_) ⟨Nat.zero_le _, Nat.zero_le _⟩
    refine zb_eq (tgt := 30) hx hb (inP (nI a) 0 99) rfl dX5_damage_15 (by decide) (fun h15 => ?_) (fun h15 => ?_)
    · exact absurd hp h15
    · refine lv_iload_n hx hb dX5_damage_18 rfl (lv_at hl 3 rfl) ?_
      refine lv_iconst (v := 1) hx hb dX5_damage_19 (by decide) ?_
      refine lv_bipush (v := 100) hx hb dX5_damage_20 (by decide) ?_
      refine lv_iload_n hx hb dX5_damage_22 rfl (lv_at hl 2 rfl) ?_
      refine zi_sub (i := 100) (j := a) hx hb rfl rfl (by omega) dX5_damage_23 ?_
      refine z_callS (rest := []) (st1 := [.int (bI (inP (nI nz) 1 (nI (100 - a))))]) hC hW (c_X5_in l G C M (nI nz) 1 (nI (100 - a))) mw_X5_in mT_X5_in mM_X5_78 ⟨Nat.le_of_ble_eq_true rfl, Nat.le_of_ble_eq_true rfl⟩ rfl rfl hl.1 (lv_room (Nat.le_of_ble_eq_true rfl)) dX5_damage_24 rfl (fun H locs hW => ?_) ⟨Nat.zero_le _, Nat.zero_le _⟩
      refine zb_ne (tgt := 32) hx hb (inP (nI nz) 1 (nI (100 - a))) rfl dX5_damage_27 (by decide) (fun h27 => ?_) (fun h27 => ?_)
      · refine lv_iconst (v := 0) hx hb dX5_damage_32 (by decide) ?_
        refine lv_istore (lv' := [(4, .int 0), (0, .ref (zad G 12 0)), (1, .int (nI t)), (2, .int (nI a)), (3, .int (nI nz))]) hx hb dX5_damage_33 hl (by decide) rfl (fun ls hl => ?_)
        refine lv_iconst (v := 0) hx hb dX5_damage_35 (by decide) ?_
        refine lv_istore (lv' := [(5, .int 0), (4, .int 0), (0, .ref (zad G 12 0)), (1, .int (nI t)), (2, .int (nI a)), (3, .int (nI nz))]) hx hb dX5_damage_36 hl (by decide) rfl (fun ls hl => ?_)
        have lp : ∀ (k : Nat) (i : Nat) (u : Nat) (Mj : MS), i + k = nz → mdmL t a k i u Mj = mdmL t a nz 0 0 M → ∀ (H : Heap) (locs : List Loc) (ls : Array Slot), Wd G s A s.heap H locs C Mj → lv_has ls 6 [(0, .ref (zad G 12 0)), (1, .int (nI t)), (2, .int (nI a)), (3, .int (nI nz)), (4, .int (nI u)), (5, .int (nI i))] → W p l e { frames := 2, cells := 0, slots := 0, locals := 43 } s m args below meth c H locs 0 0 Q (F0 m 38 ls []) := by
          intro k
          induction k with
          | zero =>
            intro i u Mj hk hD H locs ls hW hl
            refine lv_iload hx hb dX5_damage_38 (lv_at hl 5 rfl) ?_
            refine lv_iload_n hx hb dX5_damage_40 rfl (lv_at hl 3 rfl) ?_
            refine zc_ge (i := i) (j := nz) (tgt := 93) hx hb rfl rfl (by omega) (by omega) dX5_damage_41 (by decide) (fun h41 => ?_) (fun h41 => ?_)
            · refine lv_iload hx hb dX5_damage_93 (lv_at hl 4 rfl) ?_
              have hD2 : mdmL t a nz 0 0 M = (u, Mj) := hD.symm
              rw [hD2] at hE
              exact hE hW rfl dX5_damage_95
            · exact absurd h41 (by omega)
          | succ k ih =>
            intro i u Mj hk hD H locs ls hW hl
            refine lv_iload hx hb dX5_damage_38 (lv_at hl 5 rfl) ?_
            refine lv_iload_n hx hb dX5_damage_40 rfl (lv_at hl 3 rfl) ?_
            refine zc_ge (i := i) (j := nz) (tgt := 93) hx hb rfl rfl (by omega) (by omega) dX5_damage_41 (by decide) (fun h41 => ?_) (fun h41 => ?_)
            · exact absurd h41 (by omega)
            · refine lv_aload_n hx hb dX5_damage_44 rfl (lv_at hl 0 rfl) ?_
              refine g12 (k := 8) (v := .ref (zad G 13 8)) hC hW (by decide) mF_X5_31 rfl dX5_damage_45 ?_
              refine lv_bipush (v := 100) hx hb dX5_damage_48 (by decide) ?_
              refine lv_iload_n hx hb dX5_damage_50 rfl (lv_at hl 1 rfl) ?_
              refine zi_mul (i := 100) (j := t) hx hb rfl rfl dX5_damage_51 ?_
              refine lv_iload_n hx hb dX5_damage_52 rfl (lv_at hl 2 rfl) ?_
              refine zi_add (i := 100 * t) (j := a) hx hb rfl rfl dX5_damage_53 ?_
              refine lv_iload hx hb dX5_damage_54 (lv_at hl 5 rfl) ?_
              refine zi_add (i := 100 * t + a) (j := i) hx hb rfl rfl dX5_damage_56 ?_
              refine amz (i := 100 * t + a + i) (n := 1200) hC hW (by decide) rfl rfl (rfl) (by omega) dX5_damage_57 ?_
              refine lv_if_eq (tgt := 66) hx hb dX5_damage_58 (by decide) (fun h58 => ?_) (fun h58 => ?_)
              · refine lv_iload hx hb dX5_damage_66 (lv_at hl 4 rfl) ?_
                refine lv_iconst (v := 1) hx hb dX5_damage_68 (by decide) ?_
                refine zi_add (i := u) (j := 1) hx hb rfl rfl dX5_damage_69 ?_
                refine lv_istore (lv' := [(4, .int (nI (u + 1))), (0, .ref (zad G 12 0)), (1, .int (nI t)), (2, .int (nI a)), (3, .int (nI nz)), (5, .int (nI i))]) hx hb dX5_damage_70 hl (by decide) rfl (fun ls hl => ?_)
                refine lv_aload_n hx hb dX5_damage_72 rfl (lv_at hl 1 rfl) ?_
                refine g12 (k := 8) (v := .ref (zad G 13 8)) hC hW (by decide) mF_X5_31 rfl dX5_damage_73 ?_
                refine lv_bipush (v := 100) hx hb dX5_damage_76 (by decide) ?_
                refine lv_iload_n hx hb dX5_damage_78 rfl (lv_at hl 2 rfl) ?_
                refine zi_mul (i := 100) (j := t) hx hb rfl rfl dX5_damage_79 ?_
                refine lv_iload_n hx hb dX5_damage_80 rfl (lv_at hl 3 rfl) ?_
                refine zi_add (i := 100 * t) (j := a) hx hb rfl rfl dX5_damage_81 ?_
                refine lv_iload hx hb dX5_damage_82 (lv_at hl 5 rfl) ?_
                refine zi_add (i := 100 * t + a) (j := i) hx hb rfl rfl dX5_damage_84 ?_
                refine lv_iconst (v := 1) hx hb dX5_damage_85 (by decide) ?_
                refine smz (i := 100 * t + a + i) (n := 1200) (v := 1) hC hW (by decide) rfl rfl (rfl) (by omega) (by decide) dX5_damage_86 (fun _ eS H locs hW => ?_)
                subst eS
                refine lv_iinc (k := 5) (v := nI (i + 1)) (lv' := [(5, .int (nI (i + 1))), (4, .int (nI (u + 1))), (0, .ref (zad G 12 0)), (1, .int (nI t)), (2, .int (nI a)), (3, .int (nI nz))]) hx hb dX5_damage_87 hl rfl (nI_inc _) (by decide) rfl (fun ls hl => ?_)
                refine lv_goto (tgt := 38) hx hb dX5_damage_90 (by decide) ?_
                exact ih (i + 1) (u + 1) (smA Mj 8 (100 * t + a + i) 1) (by omega) (by rw [← hD, mdmL, if_pos h58]) _ _ _ hW (lv_sub hl [2, 3, 4, 5, 1, 0] rfl)
              · refine lv_iload hx hb dX5_damage_61 (lv_at hl 4 rfl) ?_
                refine lv_goto (tgt := 70) hx hb dX5_damage_63 (by decide) ?_
                refine lv_istore (lv' := [(4, .int (nI u)), (0, .ref (zad G 12 0)), (1, .int (nI t)), (2, .int (nI a)), (3, .int (nI nz)), (5, .int (nI i))]) hx hb dX5_damage_70 hl (by decide) rfl (fun ls hl => ?_)
                refine lv_aload_n hx hb dX5_damage_72 rfl (lv_at hl 1 rfl) ?_
                refine g12 (k := 8) (v := .ref (zad G 13 8)) hC hW (by decide) mF_X5_31 rfl dX5_damage_73 ?_
                refine lv_bipush (v := 100) hx hb dX5_damage_76 (by decide) ?_
                refine lv_iload_n hx hb dX5_damage_78 rfl (lv_at hl 2 rfl) ?_
                refine zi_mul (i := 100) (j := t) hx hb rfl rfl dX5_damage_79 ?_
                refine lv_iload_n hx hb dX5_damage_80 rfl (lv_at hl 3 rfl) ?_
                refine zi_add (i := 100 * t) (j := a) hx hb rfl rfl dX5_damage_81 ?_
                refine lv_iload hx hb dX5_damage_82 (lv_at hl 5 rfl) ?_
                refine zi_add (i := 100 * t + a) (j := i) hx hb rfl rfl dX5_damage_84 ?_
                refine lv_iconst (v := 1) hx hb dX5_damage_85 (by decide) ?_
                refine smz (i := 100 * t + a + i) (n := 1200) (v := 1) hC hW (by decide) rfl rfl (rfl) (by omega) (by decide) dX5_damage_86 (fun _ eS H locs hW => ?_)
                subst eS
                refine lv_iinc (k := 5) (v := nI (i + 1)) (lv' := [(5, .int (nI (i + 1))), (4, .int (nI u)), (0, .ref (zad G 12 0)), (1, .int (nI t)), (2, .int (nI a)), (3, .int (nI nz))]) hx hb dX5_damage_87 hl rfl (nI_inc _) (by decide) rfl (fun ls hl => ?_)
                refine lv_goto (tgt := 38) hx hb dX5_damage_90 (by decide) ?_
                exact ih (i + 1) u (smA Mj 8 (100 * t + a + i) 1) (by omega) (by rw [← hD, mdmL, if_neg h58]) _ _ _ hW (lv_sub hl [2, 3, 4, 5, 1, 0] rfl)
        exact lp nz 0 0 M (by omega) rfl _ _ _ hW (lv_sub hl [2, 3, 4, 5, 1, 0] rfl)
      · exact absurd hz h27

set_option maxHeartbeats 4000000 in
set_option maxRecDepth 100000 in
theorem m_jam_b (l : Launch) (G : GG) (C : CS) (M : MS) {x : Int32} (hbx : ¬ inP x 0 2) (z : Int32) : Ct l G yX5_jam cX5_jam 3 (some .int) 1 22 [.ref (zad G 12 0), .int x, .int z] C M (some (.int (-1))) C M := by
  refine Ct_i (by decide) (Nat.le_of_ble_eq_true rfl) (fun {p e s m args below meth c A Q ls} hC hW hl hE => ?_)
  have hx := hC.1
  have hb := hC.2.1
  have hl : lv_has ls 3 [(0, .ref (zad G 12 0)), (1, .int x), (2, .int z)] := hl
  refine lv_iload_n hx hb dX5_jam_0 rfl (lv_at hl 1 rfl) ?_
  refine lv_iconst (v := 0) hx hb dX5_jam_1 (by decide) ?_
  refine lv_iconst (v := 2) hx hb dX5_jam_2 (by decide) ?_
  refine z_callS (rest := []) (st1 := [.int (bI (inP x 0 2))]) hC hW (c_X5_in l G C M x 0 2) mw_X5_in mT_X5_in mM_X5_78 ⟨Nat.le_of_ble_eq_true rfl, Nat.le_of_ble_eq_true rfl⟩ rfl rfl hl.1 (lv_room (Nat.le_of_ble_eq_true rfl)) dX5_jam_3 rfl (fun H locs hW => ?_) ⟨Nat.zero_le _, Nat.zero_le _⟩
  refine zb_eq (tgt := 29) hx hb (inP x 0 2) rfl dX5_jam_6 (by decide) (fun h6 => ?_) (fun h6 => ?_)
  · refine lv_iconst (v := (-1)) hx hb dX5_jam_29 (by decide) ?_
    have qr : ((-1) : Int32) = -1 := by simp [bI, h6, cF_sF, cN_sN, cB_sB, cM_sM, cN_sF, cB_sF, cM_sF, cF_sN, cB_sN, cM_sN, cF_sB, cN_sB, cM_sB, cF_sM, cN_sM, cB_sM, mF_smF, mA_smF, mF_smA, mA_smA]
    exact hE hW qr dX5_jam_30
  · exact absurd h6 hbx

set_option maxHeartbeats 4000000 in
set_option maxRecDepth 100000 in
theorem m_jam_j (l : Launch) (G : GG) (C : CS) (M : MS) {d : Nat} (hd : d < 3) (hi : inP (nI d) 0 2) (hj : mA M 11 d ≠ 0) (z : Int32) : Ct l G yX5_jam cX5_jam 3 (some .int) 1 22 [.ref (zad G 12 0), .int (nI d), .int z] C M (some (.int (-1))) C M := by
  refine Ct_i (by decide) (Nat.le_of_ble_eq_true rfl) (fun {p e s m args below meth c A Q ls} hC hW hl hE => ?_)
  have hx := hC.1
  have hb := hC.2.1
  have hl : lv_has ls 3 [(0, .ref (zad G 12 0)), (1, .int (nI d)), (2, .int z)] := hl
  refine lv_iload_n hx hb dX5_jam_0 rfl (lv_at hl 1 rfl) ?_
  refine lv_iconst (v := 0) hx hb dX5_jam_1 (by decide) ?_
  refine lv_iconst (v := 2) hx hb dX5_jam_2 (by decide) ?_
  refine z_callS (rest := []) (st1 := [.int (bI (inP (nI d) 0 2))]) hC hW (c_X5_in l G C M (nI d) 0 2) mw_X5_in mT_X5_in mM_X5_78 ⟨Nat.le_of_ble_eq_true rfl, Nat.le_of_ble_eq_true rfl⟩ rfl rfl hl.1 (lv_room (Nat.le_of_ble_eq_true rfl)) dX5_jam_3 rfl (fun H locs hW => ?_) ⟨Nat.zero_le _, Nat.zero_le _⟩
  refine zb_eq (tgt := 29) hx hb (inP (nI d) 0 2) rfl dX5_jam_6 (by decide) (fun h6 => ?_) (fun h6 => ?_)
  · exact absurd hi h6
  · refine lv_aload_n hx hb dX5_jam_9 rfl (lv_at hl 0 rfl) ?_
    refine g12 (k := 11) (v := .ref (zad G 13 11)) hC hW (by decide) mF_X5_41 rfl dX5_jam_10 ?_
    refine lv_iload_n hx hb dX5_jam_13 rfl (lv_at hl 1 rfl) ?_
    refine amz (i := d) (n := 3) hC hW (by decide) rfl rfl (rfl) (by omega) dX5_jam_14 ?_
    refine lv_if_ne (tgt := 29) hx hb dX5_jam_15 (by decide) (fun h15 => ?_) (fun h15 => ?_)
    · refine lv_iconst (v := (-1)) hx hb dX5_jam_29 (by decide) ?_
      have qr : ((-1) : Int32) = -1 := by simp [bI, h6, h15, cF_sF, cN_sN, cB_sB, cM_sM, cN_sF, cB_sF, cM_sF, cF_sN, cB_sN, cM_sN, cF_sB, cN_sB, cM_sB, cF_sM, cN_sM, cB_sM, mF_smF, mA_smF, mF_smA, mA_smA]
      exact hE hW qr dX5_jam_30
    · exact absurd h15 hj

set_option maxHeartbeats 4000000 in
set_option maxRecDepth 100000 in
theorem m_jam_n (l : Launch) (G : GG) (C : CS) (M : MS) {d : Nat} (hd : d < 3) (hi : inP (nI d) 0 2) (hj : mA M 11 d = 0) {z : Int32} (hz : ¬ inP z (-1) 1000) : Ct l G yX5_jam cX5_jam 3 (some .int) 1 22 [.ref (zad G 12 0), .int (nI d), .int z] C M (some (.int (-1))) C M := by
  refine Ct_i (by decide) (Nat.le_of_ble_eq_true rfl) (fun {p e s m args below meth c A Q ls} hC hW hl hE => ?_)
  have hx := hC.1
  have hb := hC.2.1
  have hl : lv_has ls 3 [(0, .ref (zad G 12 0)), (1, .int (nI d)), (2, .int z)] := hl
  refine lv_iload_n hx hb dX5_jam_0 rfl (lv_at hl 1 rfl) ?_
  refine lv_iconst (v := 0) hx hb dX5_jam_1 (by decide) ?_
  refine lv_iconst (v := 2) hx hb dX5_jam_2 (by decide) ?_
  refine z_callS (rest := []) (st1 := [.int (bI (inP (nI d) 0 2))]) hC hW (c_X5_in l G C M (nI d) 0 2) mw_X5_in mT_X5_in mM_X5_78 ⟨Nat.le_of_ble_eq_true rfl, Nat.le_of_ble_eq_true rfl⟩ rfl rfl hl.1 (lv_room (Nat.le_of_ble_eq_true rfl)) dX5_jam_3 rfl (fun H locs hW => ?_) ⟨Nat.zero_le _, Nat.zero_le _⟩
  refine zb_eq (tgt := 29) hx hb (inP (nI d) 0 2) rfl dX5_jam_6 (by decide) (fun h6 => ?_) (fun h6 => ?_)
  · exact absurd hi h6
  · refine lv_aload_n hx hb dX5_jam_9 rfl (lv_at hl 0 rfl) ?_
    refine g12 (k := 11) (v := .ref (zad G 13 11)) hC hW (by decide) mF_X5_41 rfl dX5_jam_10 ?_
    refine lv_iload_n hx hb dX5_jam_13 rfl (lv_at hl 1 rfl) ?_
    refine amz (i := d) (n := 3) hC hW (by decide) rfl rfl (rfl) (by omega) dX5_jam_14 ?_
    refine lv_if_ne (tgt := 29) hx hb dX5_jam_15 (by decide) (fun h15 => ?_) (fun h15 => ?_)
    · exact absurd hj h15
    · refine lv_iload_n hx hb dX5_jam_18 rfl (lv_at hl 2 rfl) ?_
      refine lv_iconst (v := (-1)) hx hb dX5_jam_19 (by decide) ?_
      refine lv_sipush (v := 1000) hx hb dX5_jam_20 (by decide) ?_
      refine z_callS (rest := []) (st1 := [.int (bI (inP z (-1) 1000))]) hC hW (c_X5_in l G C M z (-1) 1000) mw_X5_in mT_X5_in mM_X5_78 ⟨Nat.le_of_ble_eq_true rfl, Nat.le_of_ble_eq_true rfl⟩ rfl rfl hl.1 (lv_room (Nat.le_of_ble_eq_true rfl)) dX5_jam_23 rfl (fun H locs hW => ?_) ⟨Nat.zero_le _, Nat.zero_le _⟩
      refine zb_ne (tgt := 31) hx hb (inP z (-1) 1000) rfl dX5_jam_26 (by decide) (fun h26 => ?_) (fun h26 => ?_)
      · exact absurd h26 hz
      · refine lv_iconst (v := (-1)) hx hb dX5_jam_29 (by decide) ?_
        have qr : ((-1) : Int32) = -1 := by simp [bI, h6, h15, h26, cF_sF, cN_sN, cB_sB, cM_sM, cN_sF, cB_sF, cM_sF, cF_sN, cB_sN, cM_sN, cF_sB, cN_sB, cM_sB, cF_sM, cN_sM, cB_sM, mF_smF, mA_smF, mF_smA, mA_smA]
        exact hE hW qr dX5_jam_30

set_option maxHeartbeats 4000000 in
set_option maxRecDepth 100000 in
theorem m_jam_1 (l : Launch) (G : GG) (C : CS) (M : MS) {d : Nat} (hd : d < 3) (hi : inP (nI d) 0 2) (hj : mA M 11 d = 0) {z : Int32} (hz : inP z (-1) 1000) : Ct l G yX5_jam cX5_jam 3 (some .int) 1 22 [.ref (zad G 12 0), .int (nI d), .int z] C M (some (.int z)) C (smA M 12 d z) := by
  refine Ct_i (by decide) (Nat.le_of_ble_eq_true rfl) (fun {p e s m args below meth c A Q ls} hC hW hl hE => ?_)
  have hx := hC.1
  have hb := hC.2.1
  have hl : lv_has ls 3 [(0, .ref (zad G 12 0)), (1, .int (nI d)), (2, .int z)] := hl
  refine lv_iload_n hx hb dX5_jam_0 rfl (lv_at hl 1 rfl) ?_
  refine lv_iconst (v := 0) hx hb dX5_jam_1 (by decide) ?_
  refine lv_iconst (v := 2) hx hb dX5_jam_2 (by decide) ?_
  refine z_callS (rest := []) (st1 := [.int (bI (inP (nI d) 0 2))]) hC hW (c_X5_in l G C M (nI d) 0 2) mw_X5_in mT_X5_in mM_X5_78 ⟨Nat.le_of_ble_eq_true rfl, Nat.le_of_ble_eq_true rfl⟩ rfl rfl hl.1 (lv_room (Nat.le_of_ble_eq_true rfl)) dX5_jam_3 rfl (fun H locs hW => ?_) ⟨Nat.zero_le _, Nat.zero_le _⟩
  refine zb_eq (tgt := 29) hx hb (inP (nI d) 0 2) rfl dX5_jam_6 (by decide) (fun h6 => ?_) (fun h6 => ?_)
  · exact absurd hi h6
  · refine lv_aload_n hx hb dX5_jam_9 rfl (lv_at hl 0 rfl) ?_
    refine g12 (k := 11) (v := .ref (zad G 13 11)) hC hW (by decide) mF_X5_41 rfl dX5_jam_10 ?_
    refine lv_iload_n hx hb dX5_jam_13 rfl (lv_at hl 1 rfl) ?_
    refine amz (i := d) (n := 3) hC hW (by decide) rfl rfl (rfl) (by omega) dX5_jam_14 ?_
    refine lv_if_ne (tgt := 29) hx hb dX5_jam_15 (by decide) (fun h15 => ?_) (fun h15 => ?_)
    · exact absurd hj h15
    · refine lv_iload_n hx hb dX5_jam_18 rfl (lv_at hl 2 rfl) ?_
      refine lv_iconst (v := (-1)) hx hb dX5_jam_19 (by decide) ?_
      refine lv_sipush (v := 1000) hx hb dX5_jam_20 (by decide) ?_
      refine z_callS (rest := []) (st1 := [.int (bI (inP z (-1) 1000))]) hC hW (c_X5_in l G C M z (-1) 1000) mw_X5_in mT_X5_in mM_X5_78 ⟨Nat.le_of_ble_eq_true rfl, Nat.le_of_ble_eq_true rfl⟩ rfl rfl hl.1 (lv_room (Nat.le_of_ble_eq_true rfl)) dX5_jam_23 rfl (fun H locs hW => ?_) ⟨Nat.zero_le _, Nat.zero_le _⟩
      refine zb_ne (tgt := 31) hx hb (inP z (-1) 1000) rfl dX5_jam_26 (by decide) (fun h26 => ?_) (fun h26 => ?_)
      · refine lv_aload_n hx hb dX5_jam_31 rfl (lv_at hl 0 rfl) ?_
        refine g12 (k := 12) (v := .ref (zad G 13 12)) hC hW (by decide) mF_X5_44 rfl dX5_jam_32 ?_
        refine lv_iload_n hx hb dX5_jam_35 rfl (lv_at hl 1 rfl) ?_
        refine lv_iload_n hx hb dX5_jam_36 rfl (lv_at hl 2 rfl) ?_
        refine sm (i := d) (n := 3) (v := z) hC hW (by decide) rfl rfl (rfl) (by omega) dX5_jam_37 (fun _ eS H locs hW => ?_)
        subst eS
        refine lv_iload_n hx hb dX5_jam_38 rfl (lv_at hl 2 rfl) ?_
        exact hE hW rfl dX5_jam_39
      · exact absurd hz h26

set_option maxHeartbeats 4000000 in
set_option maxRecDepth 100000 in
theorem m_fix_b (l : Launch) (G : GG) (C : CS) (M : MS) {x : Int32} (hbx : ¬ inP x 0 2) : Ct l G yX5_fix cX5_fix 3 (some .int) 1 22 [.ref (zad G 12 0), .int x] C M (some (.int (-1))) C M := by
  refine Ct_i (by decide) (Nat.le_of_ble_eq_true rfl) (fun {p e s m args below meth c A Q ls} hC hW hl hE => ?_)
  have hx := hC.1
  have hb := hC.2.1
  have hl : lv_has ls 3 [(0, .ref (zad G 12 0)), (1, .int x)] := hl
  refine lv_iload_n hx hb dX5_fix_0 rfl (lv_at hl 1 rfl) ?_
  refine lv_iconst (v := 0) hx hb dX5_fix_1 (by decide) ?_
  refine lv_iconst (v := 2) hx hb dX5_fix_2 (by decide) ?_
  refine z_callS (rest := []) (st1 := [.int (bI (inP x 0 2))]) hC hW (c_X5_in l G C M x 0 2) mw_X5_in mT_X5_in mM_X5_78 ⟨Nat.le_of_ble_eq_true rfl, Nat.le_of_ble_eq_true rfl⟩ rfl rfl hl.1 (lv_room (Nat.le_of_ble_eq_true rfl)) dX5_fix_3 rfl (fun H locs hW => ?_) ⟨Nat.zero_le _, Nat.zero_le _⟩
  refine zb_ne (tgt := 11) hx hb (inP x 0 2) rfl dX5_fix_6 (by decide) (fun h6 => ?_) (fun h6 => ?_)
  · exact absurd h6 hbx
  · refine lv_iconst (v := (-1)) hx hb dX5_fix_9 (by decide) ?_
    have qr : ((-1) : Int32) = -1 := by simp [bI, h6, cF_sF, cN_sN, cB_sB, cM_sM, cN_sF, cB_sF, cM_sF, cF_sN, cB_sN, cM_sN, cF_sB, cN_sB, cM_sB, cF_sM, cN_sM, cB_sM, mF_smF, mA_smF, mF_smA, mA_smA]
    exact hE hW qr dX5_fix_10

set_option maxHeartbeats 4000000 in
set_option maxRecDepth 100000 in
theorem m_fix_1 (l : Launch) (G : GG) (C : CS) (M : MS) {d : Nat} (hd : d < 3) (hi : inP (nI d) 0 2)  : Ct l G yX5_fix cX5_fix 3 (some .int) 1 22 [.ref (zad G 12 0), .int (nI d)] C M (some (.int (bI (mA M 11 d ≠ 0)))) C (smA (smA M 11 d 0) 12 d (-1)) := by
  refine Ct_i (by decide) (Nat.le_of_ble_eq_true rfl) (fun {p e s m args below meth c A Q ls} hC hW hl hE => ?_)
  have hx := hC.1
  have hb := hC.2.1
  have hl : lv_has ls 3 [(0, .ref (zad G 12 0)), (1, .int (nI d))] := hl
  refine lv_iload_n hx hb dX5_fix_0 rfl (lv_at hl 1 rfl) ?_
  refine lv_iconst (v := 0) hx hb dX5_fix_1 (by decide) ?_
  refine lv_iconst (v := 2) hx hb dX5_fix_2 (by decide) ?_
  refine z_callS (rest := []) (st1 := [.int (bI (inP (nI d) 0 2))]) hC hW (c_X5_in l G C M (nI d) 0 2) mw_X5_in mT_X5_in mM_X5_78 ⟨Nat.le_of_ble_eq_true rfl, Nat.le_of_ble_eq_true rfl⟩ rfl rfl hl.1 (lv_room (Nat.le_of_ble_eq_true rfl)) dX5_fix_3 rfl (fun H locs hW => ?_) ⟨Nat.zero_le _, Nat.zero_le _⟩
  refine zb_ne (tgt := 11) hx hb (inP (nI d) 0 2) rfl dX5_fix_6 (by decide) (fun h6 => ?_) (fun h6 => ?_)
  · refine lv_aload_n hx hb dX5_fix_11 rfl (lv_at hl 0 rfl) ?_
    refine g12 (k := 11) (v := .ref (zad G 13 11)) hC hW (by decide) mF_X5_41 rfl dX5_fix_12 ?_
    refine lv_iload_n hx hb dX5_fix_15 rfl (lv_at hl 1 rfl) ?_
    refine amz (i := d) (n := 3) hC hW (by decide) rfl rfl (rfl) (by omega) dX5_fix_16 ?_
    refine lv_if_eq (tgt := 24) hx hb dX5_fix_17 (by decide) (fun h17 => ?_) (fun h17 => ?_)
    · refine lv_iconst (v := 0) hx hb dX5_fix_24 (by decide) ?_
      refine lv_istore_n (lv' := [(2, .int 0), (0, .ref (zad G 12 0)), (1, .int (nI d))]) hx hb dX5_fix_25 rfl hl (by decide) rfl (fun ls hl => ?_)
      refine lv_aload_n hx hb dX5_fix_26 rfl (lv_at hl 1 rfl) ?_
      refine g12 (k := 11) (v := .ref (zad G 13 11)) hC hW (by decide) mF_X5_41 rfl dX5_fix_27 ?_
      refine lv_iload_n hx hb dX5_fix_30 rfl (lv_at hl 2 rfl) ?_
      refine lv_iconst (v := 0) hx hb dX5_fix_31 (by decide) ?_
      refine smz (i := d) (n := 3) (v := 0) hC hW (by decide) rfl rfl (rfl) (by omega) (by decide) dX5_fix_32 (fun _ eS H locs hW => ?_)
      subst eS
      refine lv_aload_n hx hb dX5_fix_33 rfl (lv_at hl 1 rfl) ?_
      refine g12 (k := 12) (v := .ref (zad G 13 12)) hC hW (by decide) mF_X5_44 rfl dX5_fix_34 ?_
      refine lv_iload_n hx hb dX5_fix_37 rfl (lv_at hl 2 rfl) ?_
      refine lv_iconst (v := (-1)) hx hb dX5_fix_38 (by decide) ?_
      refine sm (i := d) (n := 3) (v := (-1)) hC hW (by decide) rfl rfl (rfl) (by omega) dX5_fix_39 (fun _ eS H locs hW => ?_)
      subst eS
      refine lv_iload_n hx hb dX5_fix_40 rfl (lv_at hl 0 rfl) ?_
      have qr : (0 : Int32) = bI (mA M 11 d ≠ 0) := by exact bI_f (fun q => q h17)
      exact hE hW qr dX5_fix_41
    · refine lv_iconst (v := 1) hx hb dX5_fix_20 (by decide) ?_
      refine lv_goto (tgt := 25) hx hb dX5_fix_21 (by decide) ?_
      refine lv_istore_n (lv' := [(2, .int 1), (0, .ref (zad G 12 0)), (1, .int (nI d))]) hx hb dX5_fix_25 rfl hl (by decide) rfl (fun ls hl => ?_)
      refine lv_aload_n hx hb dX5_fix_26 rfl (lv_at hl 1 rfl) ?_
      refine g12 (k := 11) (v := .ref (zad G 13 11)) hC hW (by decide) mF_X5_41 rfl dX5_fix_27 ?_
      refine lv_iload_n hx hb dX5_fix_30 rfl (lv_at hl 2 rfl) ?_
      refine lv_iconst (v := 0) hx hb dX5_fix_31 (by decide) ?_
      refine smz (i := d) (n := 3) (v := 0) hC hW (by decide) rfl rfl (rfl) (by omega) (by decide) dX5_fix_32 (fun _ eS H locs hW => ?_)
      subst eS
      refine lv_aload_n hx hb dX5_fix_33 rfl (lv_at hl 1 rfl) ?_
      refine g12 (k := 12) (v := .ref (zad G 13 12)) hC hW (by decide) mF_X5_44 rfl dX5_fix_34 ?_
      refine lv_iload_n hx hb dX5_fix_37 rfl (lv_at hl 2 rfl) ?_
      refine lv_iconst (v := (-1)) hx hb dX5_fix_38 (by decide) ?_
      refine sm (i := d) (n := 3) (v := (-1)) hC hW (by decide) rfl rfl (rfl) (by omega) dX5_fix_39 (fun _ eS H locs hW => ?_)
      subst eS
      refine lv_iload_n hx hb dX5_fix_40 rfl (lv_at hl 0 rfl) ?_
      have qr : (1 : Int32) = bI (mA M 11 d ≠ 0) := by exact bI_t h17
      exact hE hW qr dX5_fix_41
  · exact absurd hi h6

set_option maxHeartbeats 4000000 in
set_option maxRecDepth 100000 in
theorem m_pow_b (l : Launch) (G : GG) (C : CS) (M : MS) {x : Int32} (hbx : ¬ inP x (-1) 100000) : Ct l G yX5_power cX5_power 2 (some .int) 1 22 [.ref (zad G 12 0), .int x] C M (some (.int (-1))) C M := by
  refine Ct_i (by decide) (Nat.le_of_ble_eq_true rfl) (fun {p e s m args below meth c A Q ls} hC hW hl hE => ?_)
  have hx := hC.1
  have hb := hC.2.1
  have hl : lv_has ls 2 [(0, .ref (zad G 12 0)), (1, .int x)] := hl
  refine lv_iload_n hx hb dX5_power_0 rfl (lv_at hl 1 rfl) ?_
  refine lv_iconst (v := (-1)) hx hb dX5_power_1 (by decide) ?_
  refine lv_ldc (v := 100000) hx hb hC.2.2.2.1 (hC.2.2.2.2 _ mQ_X5_170) dX5_power_2 ?_
  refine z_callS (rest := []) (st1 := [.int (bI (inP x (-1) 100000))]) hC hW (c_X5_in l G C M x (-1) 100000) mw_X5_in mT_X5_in mM_X5_78 ⟨Nat.le_of_ble_eq_true rfl, Nat.le_of_ble_eq_true rfl⟩ rfl rfl hl.1 (lv_room (Nat.le_of_ble_eq_true rfl)) dX5_power_4 rfl (fun H locs hW => ?_) ⟨Nat.zero_le _, Nat.zero_le _⟩
  refine zb_ne (tgt := 12) hx hb (inP x (-1) 100000) rfl dX5_power_7 (by decide) (fun h7 => ?_) (fun h7 => ?_)
  · exact absurd h7 hbx
  · refine lv_iconst (v := (-1)) hx hb dX5_power_10 (by decide) ?_
    have qr : ((-1) : Int32) = -1 := by simp [bI, h7, cF_sF, cN_sN, cB_sB, cM_sM, cN_sF, cB_sF, cM_sF, cF_sN, cB_sN, cM_sN, cF_sB, cN_sB, cM_sB, cF_sM, cN_sM, cB_sM, mF_smF, mA_smF, mF_smA, mA_smA]
    exact hE hW qr dX5_power_11

set_option maxHeartbeats 4000000 in
set_option maxRecDepth 100000 in
theorem m_pow_1 (l : Launch) (G : GG) (C : CS) (M : MS) {x : Int32} (hi : inP x (-1) 100000) : Ct l G yX5_power cX5_power 2 (some .int) 1 22 [.ref (zad G 12 0), .int x] C M (some (.int x)) C (smF M 29 x) := by
  refine Ct_i (by decide) (Nat.le_of_ble_eq_true rfl) (fun {p e s m args below meth c A Q ls} hC hW hl hE => ?_)
  have hx := hC.1
  have hb := hC.2.1
  have hl : lv_has ls 2 [(0, .ref (zad G 12 0)), (1, .int x)] := hl
  refine lv_iload_n hx hb dX5_power_0 rfl (lv_at hl 1 rfl) ?_
  refine lv_iconst (v := (-1)) hx hb dX5_power_1 (by decide) ?_
  refine lv_ldc (v := 100000) hx hb hC.2.2.2.1 (hC.2.2.2.2 _ mQ_X5_170) dX5_power_2 ?_
  refine z_callS (rest := []) (st1 := [.int (bI (inP x (-1) 100000))]) hC hW (c_X5_in l G C M x (-1) 100000) mw_X5_in mT_X5_in mM_X5_78 ⟨Nat.le_of_ble_eq_true rfl, Nat.le_of_ble_eq_true rfl⟩ rfl rfl hl.1 (lv_room (Nat.le_of_ble_eq_true rfl)) dX5_power_4 rfl (fun H locs hW => ?_) ⟨Nat.zero_le _, Nat.zero_le _⟩
  refine zb_ne (tgt := 12) hx hb (inP x (-1) 100000) rfl dX5_power_7 (by decide) (fun h7 => ?_) (fun h7 => ?_)
  · refine lv_aload_n hx hb dX5_power_12 rfl (lv_at hl 0 rfl) ?_
    refine lv_iload_n hx hb dX5_power_13 rfl (lv_at hl 1 rfl) ?_
    refine p12 (k := 29) (v := x) hC hW (by decide) mF_X5_72 dX5_power_14 (fun _ eS H locs hW => ?_)
    subst eS
    refine lv_iload_n hx hb dX5_power_17 rfl (lv_at hl 1 rfl) ?_
    exact hE hW rfl dX5_power_18
  · exact absurd hi h7

set_option maxHeartbeats 4000000 in
set_option maxRecDepth 100000 in
theorem m_pla_n (l : Launch) (G : GG) (C : CS) (M : MS) {x : Int32} (hn : ¬ nameP x) (y : Int32) : Ct l G yX5_place cX5_place 4 (some .int) 2 43 [.ref (zad G 12 0), .int x, .int y] C M (some (.int (-1))) C M := by
  refine Ct_i (by decide) (Nat.le_of_ble_eq_true rfl) (fun {p e s m args below meth c A Q ls} hC hW hl hE => ?_)
  have hx := hC.1
  have hb := hC.2.1
  have hl : lv_has ls 4 [(0, .ref (zad G 12 0)), (1, .int x), (2, .int y)] := hl
  refine lv_iload_n hx hb dX5_place_0 rfl (lv_at hl 1 rfl) ?_
  refine z_callS (rest := []) (st1 := [.int (bI (nameP x))]) hC hW (c_X5_isName l G C M x) mw_X5_isName mT_X5_isName mM_X5_113 ⟨Nat.le_of_ble_eq_true rfl, Nat.le_of_ble_eq_true rfl⟩ rfl rfl hl.1 (lv_room (Nat.le_of_ble_eq_true rfl)) dX5_place_1 rfl (fun H locs hW => ?_) ⟨Nat.zero_le _, Nat.zero_le _⟩
  refine zb_eq (tgt := 15) hx hb (nameP x) rfl dX5_place_4 (by decide) (fun h4 => ?_) (fun h4 => ?_)
  · refine lv_iconst (v := (-1)) hx hb dX5_place_15 (by decide) ?_
    have qr : ((-1) : Int32) = -1 := by simp [bI, h4, cF_sF, cN_sN, cB_sB, cM_sM, cN_sF, cB_sF, cM_sF, cF_sN, cB_sN, cM_sN, cF_sB, cN_sB, cM_sB, cF_sM, cN_sM, cB_sM, mF_smF, mA_smF, mF_smA, mA_smA]
    exact hE hW qr dX5_place_16
  · exact absurd h4 hn

set_option maxHeartbeats 4000000 in
set_option maxRecDepth 100000 in
theorem m_pla_b (l : Launch) (G : GG) (C : CS) (M : MS) {n : Nat} (hle : n ≤ 12) (hn : mF M 0 = nI n) {x y : Int32} (hnm : nameP x) (hby : badT n y) : Ct l G yX5_place cX5_place 4 (some .int) 2 43 [.ref (zad G 12 0), .int x, .int y] C M (some (.int (-1))) C M := by
  refine Ct_i (by decide) (Nat.le_of_ble_eq_true rfl) (fun {p e s m args below meth c A Q ls} hC hW hl hE => ?_)
  have hx := hC.1
  have hb := hC.2.1
  have hl : lv_has ls 4 [(0, .ref (zad G 12 0)), (1, .int x), (2, .int y)] := hl
  refine lv_iload_n hx hb dX5_place_0 rfl (lv_at hl 1 rfl) ?_
  refine z_callS (rest := []) (st1 := [.int (bI (nameP x))]) hC hW (c_X5_isName l G C M x) mw_X5_isName mT_X5_isName mM_X5_113 ⟨Nat.le_of_ble_eq_true rfl, Nat.le_of_ble_eq_true rfl⟩ rfl rfl hl.1 (lv_room (Nat.le_of_ble_eq_true rfl)) dX5_place_1 rfl (fun H locs hW => ?_) ⟨Nat.zero_le _, Nat.zero_le _⟩
  refine zb_eq (tgt := 15) hx hb (nameP x) rfl dX5_place_4 (by decide) (fun h4 => ?_) (fun h4 => ?_)
  · exact absurd hnm h4
  · refine lv_aload_n hx hb dX5_place_7 rfl (lv_at hl 0 rfl) ?_
    refine lv_iload_n hx hb dX5_place_8 rfl (lv_at hl 2 rfl) ?_
    refine z_callV (As := [.int y]) (rest := []) (st1 := [.int (bI (¬ badT n y))]) hC hW LL_12 rfl rfl rfl (c_X5_isTape l G C M hle hn y) mw_X5_isTape mv_X5_isTape mM_X5_129 ⟨Nat.le_of_ble_eq_true rfl, Nat.le_of_ble_eq_true rfl⟩ rfl rfl hl.1 (lv_room (Nat.le_of_ble_eq_true rfl)) dX5_place_9 rfl (fun H locs hW => ?_) ⟨Nat.zero_le _, Nat.zero_le _⟩
    refine zb_ne (tgt := 17) hx hb (¬ badT n y) rfl dX5_place_12 (by decide) (fun h12 => ?_) (fun h12 => ?_)
    · exact absurd hby h12
    · refine lv_iconst (v := (-1)) hx hb dX5_place_15 (by decide) ?_
      have qr : ((-1) : Int32) = -1 := by simp [bI, h4, h12, cF_sF, cN_sN, cB_sB, cM_sM, cN_sF, cB_sF, cM_sF, cF_sN, cB_sN, cM_sN, cF_sB, cN_sB, cM_sB, cF_sM, cN_sM, cB_sM, mF_smF, mA_smF, mF_smA, mA_smA]
      exact hE hW qr dX5_place_16

set_option maxHeartbeats 4000000 in
set_option maxRecDepth 100000 in
theorem m_pla_0 (l : Launch) (G : GG) (C : CS) (M : MS) {n : Nat} (hle : n ≤ 12) (hn : mF M 0 = nI n) {t : Nat} (ht : t < n) {nm : Nat} (hnm3 : nm < 1000) (hnm : nameP (nI nm)) (hk : mA M 9 (1000 * t + nm) = 0) : Ct l G yX5_place cX5_place 4 (some .int) 2 43 [.ref (zad G 12 0), .int (nI nm), .int (nI t)] C M (some (.int (-2))) C M := by
  refine Ct_i (by decide) (Nat.le_of_ble_eq_true rfl) (fun {p e s m args below meth c A Q ls} hC hW hl hE => ?_)
  have hx := hC.1
  have hb := hC.2.1
  have hl : lv_has ls 4 [(0, .ref (zad G 12 0)), (1, .int (nI nm)), (2, .int (nI t))] := hl
  refine lv_iload_n hx hb dX5_place_0 rfl (lv_at hl 1 rfl) ?_
  refine z_callS (rest := []) (st1 := [.int (bI (nameP (nI nm)))]) hC hW (c_X5_isName l G C M (nI nm)) mw_X5_isName mT_X5_isName mM_X5_113 ⟨Nat.le_of_ble_eq_true rfl, Nat.le_of_ble_eq_true rfl⟩ rfl rfl hl.1 (lv_room (Nat.le_of_ble_eq_true rfl)) dX5_place_1 rfl (fun H locs hW => ?_) ⟨Nat.zero_le _, Nat.zero_le _⟩
  refine zb_eq (tgt := 15) hx hb (nameP (nI nm)) rfl dX5_place_4 (by decide) (fun h4 => ?_) (fun h4 => ?_)
  · exact absurd hnm h4
  · refine lv_aload_n hx hb dX5_place_7 rfl (lv_at hl 0 rfl) ?_
    refine lv_iload_n hx hb dX5_place_8 rfl (lv_at hl 2 rfl) ?_
    refine z_callV (As := [.int (nI t)]) (rest := []) (st1 := [.int (bI (¬ badT n (nI t)))]) hC hW LL_12 rfl rfl rfl (c_X5_isTape l G C M hle hn (nI t)) mw_X5_isTape mv_X5_isTape mM_X5_129 ⟨Nat.le_of_ble_eq_true rfl, Nat.le_of_ble_eq_true rfl⟩ rfl rfl hl.1 (lv_room (Nat.le_of_ble_eq_true rfl)) dX5_place_9 rfl (fun H locs hW => ?_) ⟨Nat.zero_le _, Nat.zero_le _⟩
    refine zb_ne (tgt := 17) hx hb (¬ badT n (nI t)) rfl dX5_place_12 (by decide) (fun h12 => ?_) (fun h12 => ?_)
    · refine lv_aload_n hx hb dX5_place_17 rfl (lv_at hl 0 rfl) ?_
      refine g12 (k := 9) (v := .ref (zad G 13 9)) hC hW (by decide) mF_X5_35 rfl dX5_place_18 ?_
      refine lv_sipush (v := 1000) hx hb dX5_place_21 (by decide) ?_
      refine lv_iload_n hx hb dX5_place_24 rfl (lv_at hl 2 rfl) ?_
      refine zi_mul (i := 1000) (j := t) hx hb rfl rfl dX5_place_25 ?_
      refine lv_iload_n hx hb dX5_place_26 rfl (lv_at hl 1 rfl) ?_
      refine zi_add (i := 1000 * t) (j := nm) hx hb rfl rfl dX5_place_27 ?_
      refine am (i := 1000 * t + nm) (n := 12000) hC hW (by decide) rfl rfl (rfl) (by omega) dX5_place_28 ?_
      refine lv_istore_n (lv' := [(3, .int (mA M 9 (1000 * t + nm))), (0, .ref (zad G 12 0)), (1, .int (nI nm)), (2, .int (nI t))]) hx hb dX5_place_29 rfl hl (by decide) rfl (fun ls hl => ?_)
      refine lv_iload_n hx hb dX5_place_30 rfl (lv_at hl 0 rfl) ?_
      refine lv_if_ne (tgt := 39) hx hb dX5_place_31 (by decide) (fun h31 => ?_) (fun h31 => ?_)
      · exact absurd hk h31
      · refine lv_bipush (v := (-2)) hx hb dX5_place_34 (by decide) ?_
        refine lv_goto (tgt := 42) hx hb dX5_place_36 (by decide) ?_
        have qr : ((-2) : Int32) = -2 := by simp [bI, h4, h12, h31, cF_sF, cN_sN, cB_sB, cM_sM, cN_sF, cB_sF, cM_sF, cF_sN, cB_sN, cM_sN, cF_sB, cN_sB, cM_sB, cF_sM, cN_sM, cB_sM, mF_smF, mA_smF, mF_smA, mA_smA]
        exact hE hW qr dX5_place_42
    · exact absurd (not_bad hle ht) h12

set_option maxHeartbeats 4000000 in
set_option maxRecDepth 100000 in
theorem m_pla_1 (l : Launch) (G : GG) (C : CS) (M : MS) {n : Nat} (hle : n ≤ 12) (hn : mF M 0 = nI n) {t : Nat} (ht : t < n) {nm : Nat} (hnm3 : nm < 1000) (hnm : nameP (nI nm)) {pp : Nat} (hpp : pp < 100) (hk : mA M 9 (1000 * t + nm) = nI (pp + 1)) : Ct l G yX5_place cX5_place 4 (some .int) 2 43 [.ref (zad G 12 0), .int (nI nm), .int (nI t)] C M (some (.int (nI pp))) C M := by
  refine Ct_i (by decide) (Nat.le_of_ble_eq_true rfl) (fun {p e s m args below meth c A Q ls} hC hW hl hE => ?_)
  have hx := hC.1
  have hb := hC.2.1
  have hl : lv_has ls 4 [(0, .ref (zad G 12 0)), (1, .int (nI nm)), (2, .int (nI t))] := hl
  refine lv_iload_n hx hb dX5_place_0 rfl (lv_at hl 1 rfl) ?_
  refine z_callS (rest := []) (st1 := [.int (bI (nameP (nI nm)))]) hC hW (c_X5_isName l G C M (nI nm)) mw_X5_isName mT_X5_isName mM_X5_113 ⟨Nat.le_of_ble_eq_true rfl, Nat.le_of_ble_eq_true rfl⟩ rfl rfl hl.1 (lv_room (Nat.le_of_ble_eq_true rfl)) dX5_place_1 rfl (fun H locs hW => ?_) ⟨Nat.zero_le _, Nat.zero_le _⟩
  refine zb_eq (tgt := 15) hx hb (nameP (nI nm)) rfl dX5_place_4 (by decide) (fun h4 => ?_) (fun h4 => ?_)
  · exact absurd hnm h4
  · refine lv_aload_n hx hb dX5_place_7 rfl (lv_at hl 0 rfl) ?_
    refine lv_iload_n hx hb dX5_place_8 rfl (lv_at hl 2 rfl) ?_
    refine z_callV (As := [.int (nI t)]) (rest := []) (st1 := [.int (bI (¬ badT n (nI t)))]) hC hW LL_12 rfl rfl rfl (c_X5_isTape l G C M hle hn (nI t)) mw_X5_isTape mv_X5_isTape mM_X5_129 ⟨Nat.le_of_ble_eq_true rfl, Nat.le_of_ble_eq_true rfl⟩ rfl rfl hl.1 (lv_room (Nat.le_of_ble_eq_true rfl)) dX5_place_9 rfl (fun H locs hW => ?_) ⟨Nat.zero_le _, Nat.zero_le _⟩
    refine zb_ne (tgt := 17) hx hb (¬ badT n (nI t)) rfl dX5_place_12 (by decide) (fun h12 => ?_) (fun h12 => ?_)
    · refine lv_aload_n hx hb dX5_place_17 rfl (lv_at hl 0 rfl) ?_
      refine g12 (k := 9) (v := .ref (zad G 13 9)) hC hW (by decide) mF_X5_35 rfl dX5_place_18 ?_
      refine lv_sipush (v := 1000) hx hb dX5_place_21 (by decide) ?_
      refine lv_iload_n hx hb dX5_place_24 rfl (lv_at hl 2 rfl) ?_
      refine zi_mul (i := 1000) (j := t) hx hb rfl rfl dX5_place_25 ?_
      refine lv_iload_n hx hb dX5_place_26 rfl (lv_at hl 1 rfl) ?_
      refine zi_add (i := 1000 * t) (j := nm) hx hb rfl rfl dX5_place_27 ?_
      refine am (i := 1000 * t + nm) (n := 12000) hC hW (by decide) rfl rfl (rfl) (by omega) dX5_place_28 ?_
      refine z_top (y := nI (pp + 1)) (hk) ?_
      refine lv_istore_n (lv' := [(3, .int (nI (pp + 1))), (0, .ref (zad G 12 0)), (1, .int (nI nm)), (2, .int (nI t))]) hx hb dX5_place_29 rfl hl (by decide) rfl (fun ls hl => ?_)
      refine lv_iload_n hx hb dX5_place_30 rfl (lv_at hl 0 rfl) ?_
      refine zf_ne (i := pp + 1) (tgt := 39) hx hb rfl (by omega) dX5_place_31 (by decide) (fun h31 => ?_) (fun h31 => ?_)
      · refine lv_iload_n hx hb dX5_place_39 rfl (lv_at hl 0 rfl) ?_
        refine lv_iconst (v := 1) hx hb dX5_place_40 (by decide) ?_
        refine zi_sub (i := pp + 1) (j := 1) hx hb rfl rfl (by omega) dX5_place_41 ?_
        have qr : (nI ((pp + 1) - 1) : Int32) = nI pp := by rw [show pp + 1 - 1 = pp by omega]
        exact hE hW qr dX5_place_42
      · exact absurd h31 (by omega)
    · exact absurd (not_bad hle ht) h12

set_option maxHeartbeats 4000000 in
set_option maxRecDepth 100000 in
theorem m_blo_b (l : Launch) (G : GG) (C : CS) (M : MS) {n : Nat} (hle : n ≤ 12) (hn : mF M 0 = nI n) {x : Int32} (hbx : badT n x) (y w : Int32) : Ct l G yX5_block cX5_block 5 (some .int) 2 43 [.ref (zad G 12 0), .int x, .int y, .int w] C M (some (.int (-1))) C M := by
  refine Ct_i (by decide) (Nat.le_of_ble_eq_true rfl) (fun {p e s m args below meth c A Q ls} hC hW hl hE => ?_)
  have hx := hC.1
  have hb := hC.2.1
  have hl : lv_has ls 5 [(0, .ref (zad G 12 0)), (1, .int x), (2, .int y), (3, .int w)] := hl
  refine lv_aload_n hx hb dX5_block_0 rfl (lv_at hl 0 rfl) ?_
  refine lv_iload_n hx hb dX5_block_1 rfl (lv_at hl 1 rfl) ?_
  refine z_callV (As := [.int x]) (rest := []) (st1 := [.int (bI (¬ badT n x))]) hC hW LL_12 rfl rfl rfl (c_X5_isTape l G C M hle hn x) mw_X5_isTape mv_X5_isTape mM_X5_129 ⟨Nat.le_of_ble_eq_true rfl, Nat.le_of_ble_eq_true rfl⟩ rfl rfl hl.1 (lv_room (Nat.le_of_ble_eq_true rfl)) dX5_block_2 rfl (fun H locs hW => ?_) ⟨Nat.zero_le _, Nat.zero_le _⟩
  refine zb_eq (tgt := 27) hx hb (¬ badT n x) rfl dX5_block_5 (by decide) (fun h5 => ?_) (fun h5 => ?_)
  · refine lv_iconst (v := (-1)) hx hb dX5_block_27 (by decide) ?_
    have qr : ((-1) : Int32) = -1 := by simp [bI, h5, cF_sF, cN_sN, cB_sB, cM_sM, cN_sF, cB_sF, cM_sF, cF_sN, cB_sN, cM_sN, cF_sB, cN_sB, cM_sB, cF_sM, cN_sM, cB_sM, mF_smF, mA_smF, mF_smA, mA_smA]
    exact hE hW qr dX5_block_28
  · exact absurd hbx h5

set_option maxHeartbeats 4000000 in
set_option maxRecDepth 100000 in
theorem m_blo_p (l : Launch) (G : GG) (C : CS) (M : MS) {n : Nat} (hle : n ≤ 12) (hn : mF M 0 = nI n) {t : Nat} (ht : t < n) {y : Int32} (hp : ¬ inP y 0 99) (w : Int32) : Ct l G yX5_block cX5_block 5 (some .int) 2 43 [.ref (zad G 12 0), .int (nI t), .int y, .int w] C M (some (.int (-1))) C M := by
  refine Ct_i (by decide) (Nat.le_of_ble_eq_true rfl) (fun {p e s m args below meth c A Q ls} hC hW hl hE => ?_)
  have hx := hC.1
  have hb := hC.2.1
  have hl : lv_has ls 5 [(0, .ref (zad G 12 0)), (1, .int (nI t)), (2, .int y), (3, .int w)] := hl
  refine lv_aload_n hx hb dX5_block_0 rfl (lv_at hl 0 rfl) ?_
  refine lv_iload_n hx hb dX5_block_1 rfl (lv_at hl 1 rfl) ?_
  refine z_callV (As := [.int (nI t)]) (rest := []) (st1 := [.int (bI (¬ badT n (nI t)))]) hC hW LL_12 rfl rfl rfl (c_X5_isTape l G C M hle hn (nI t)) mw_X5_isTape mv_X5_isTape mM_X5_129 ⟨Nat.le_of_ble_eq_true rfl, Nat.le_of_ble_eq_true rfl⟩ rfl rfl hl.1 (lv_room (Nat.le_of_ble_eq_true rfl)) dX5_block_2 rfl (fun H locs hW => ?_) ⟨Nat.zero_le _, Nat.zero_le _⟩
  refine zb_eq (tgt := 27) hx hb (¬ badT n (nI t)) rfl dX5_block_5 (by decide) (fun h5 => ?_) (fun h5 => ?_)
  · exact absurd (not_bad hle ht) h5
  · refine lv_iload_n hx hb dX5_block_8 rfl (lv_at hl 2 rfl) ?_
    refine lv_iconst (v := 0) hx hb dX5_block_9 (by decide) ?_
    refine lv_bipush (v := 99) hx hb dX5_block_10 (by decide) ?_
    refine z_callS (rest := []) (st1 := [.int (bI (inP y 0 99))]) hC hW (c_X5_in l G C M y 0 99) mw_X5_in mT_X5_in mM_X5_78 ⟨Nat.le_of_ble_eq_true rfl, Nat.le_of_ble_eq_true rfl⟩ rfl rfl hl.1 (lv_room (Nat.le_of_ble_eq_true rfl)) dX5_block_12 rfl (fun H locs hW => ?_) ⟨Nat.zero_le _, Nat.zero_le _⟩
    refine zb_eq (tgt := 27) hx hb (inP y 0 99) rfl dX5_block_15 (by decide) (fun h15 => ?_) (fun h15 => ?_)
    · refine lv_iconst (v := (-1)) hx hb dX5_block_27 (by decide) ?_
      have qr : ((-1) : Int32) = -1 := by simp [bI, h5, h15, cF_sF, cN_sN, cB_sB, cM_sM, cN_sF, cB_sF, cM_sF, cF_sN, cB_sN, cM_sN, cF_sB, cN_sB, cM_sB, cF_sM, cN_sM, cB_sM, mF_smF, mA_smF, mF_smA, mA_smA]
      exact hE hW qr dX5_block_28
    · exact absurd h15 hp

set_option maxHeartbeats 4000000 in
set_option maxRecDepth 100000 in
theorem m_blo_w (l : Launch) (G : GG) (C : CS) (M : MS) {n : Nat} (hle : n ≤ 12) (hn : mF M 0 = nI n) {t : Nat} (ht : t < n) {a : Nat} (ha : a < 100) (hp : inP (nI a) 0 99) {w : Int32} (hw : ¬ inP w 0 3) : Ct l G yX5_block cX5_block 5 (some .int) 2 43 [.ref (zad G 12 0), .int (nI t), .int (nI a), .int w] C M (some (.int (-1))) C M := by
  refine Ct_i (by decide) (Nat.le_of_ble_eq_true rfl) (fun {p e s m args below meth c A Q ls} hC hW hl hE => ?_)
  have hx := hC.1
  have hb := hC.2.1
  have hl : lv_has ls 5 [(0, .ref (zad G 12 0)), (1, .int (nI t)), (2, .int (nI a)), (3, .int w)] := hl
  refine lv_aload_n hx hb dX5_block_0 rfl (lv_at hl 0 rfl) ?_
  refine lv_iload_n hx hb dX5_block_1 rfl (lv_at hl 1 rfl) ?_
  refine z_callV (As := [.int (nI t)]) (rest := []) (st1 := [.int (bI (¬ badT n (nI t)))]) hC hW LL_12 rfl rfl rfl (c_X5_isTape l G C M hle hn (nI t)) mw_X5_isTape mv_X5_isTape mM_X5_129 ⟨Nat.le_of_ble_eq_true rfl, Nat.le_of_ble_eq_true rfl⟩ rfl rfl hl.1 (lv_room (Nat.le_of_ble_eq_true rfl)) dX5_block_2 rfl (fun H locs hW => ?_) ⟨Nat.zero_le _, Nat.zero_le _⟩
  refine zb_eq (tgt := 27) hx hb (¬ badT n (nI t)) rfl dX5_block_5 (by decide) (fun h5 => ?_) (fun h5 => ?_)
  · exact absurd (not_bad hle ht) h5
  · refine lv_iload_n hx hb dX5_block_8 rfl (lv_at hl 2 rfl) ?_
    refine lv_iconst (v := 0) hx hb dX5_block_9 (by decide) ?_
    refine lv_bipush (v := 99) hx hb dX5_block_10 (by decide) ?_
    refine z_callS (rest := []) (st1 := [.int (bI (inP (nI a) 0 99))]) hC hW (c_X5_in l G C M (nI a) 0 99) mw_X5_in mT_X5_in mM_X5_78 ⟨Nat.le_of_ble_eq_true rfl, Nat.le_of_ble_eq_true rfl⟩ rfl rfl hl.1 (lv_room (Nat.le_of_ble_eq_true rfl)) dX5_block_12 rfl (fun H locs hW => ?_) ⟨Nat.zero_le _, Nat.zero_le _⟩
    refine zb_eq (tgt := 27) hx hb (inP (nI a) 0 99) rfl dX5_block_15 (by decide) (fun h15 => ?_) (fun h15 => ?_)
    · exact absurd hp h15
    · refine lv_iload_n hx hb dX5_block_18 rfl (lv_at hl 3 rfl) ?_
      refine lv_iconst (v := 0) hx hb dX5_block_19 (by decide) ?_
      refine lv_iconst (v := 3) hx hb dX5_block_20 (by decide) ?_
      refine z_callS (rest := []) (st1 := [.int (bI (inP w 0 3))]) hC hW (c_X5_in l G C M w 0 3) mw_X5_in mT_X5_in mM_X5_78 ⟨Nat.le_of_ble_eq_true rfl, Nat.le_of_ble_eq_true rfl⟩ rfl rfl hl.1 (lv_room (Nat.le_of_ble_eq_true rfl)) dX5_block_21 rfl (fun H locs hW => ?_) ⟨Nat.zero_le _, Nat.zero_le _⟩
      refine zb_ne (tgt := 29) hx hb (inP w 0 3) rfl dX5_block_24 (by decide) (fun h24 => ?_) (fun h24 => ?_)
      · exact absurd h24 hw
      · refine lv_iconst (v := (-1)) hx hb dX5_block_27 (by decide) ?_
        have qr : ((-1) : Int32) = -1 := by simp [bI, h5, h15, h24, cF_sF, cN_sN, cB_sB, cM_sM, cN_sF, cB_sF, cM_sF, cF_sN, cB_sN, cM_sN, cF_sB, cN_sB, cM_sB, cF_sM, cN_sM, cB_sM, mF_smF, mA_smF, mF_smA, mA_smA]
        exact hE hW qr dX5_block_28

set_option maxHeartbeats 4000000 in
set_option maxRecDepth 100000 in
theorem m_blo_1 (l : Launch) (G : GG) (C : CS) (M : MS) {n : Nat} (hle : n ≤ 12) (hn : mF M 0 = nI n) {t : Nat} (ht : t < n) {a : Nat} (ha : a < 100) (hp : inP (nI a) 0 99) {w : Int32} (hw : inP w 0 3) : Ct l G yX5_block cX5_block 5 (some .int) 2 43 [.ref (zad G 12 0), .int (nI t), .int (nI a), .int w] C M (some (.int (mblo M (100 * t + a) w))) C M := by
  refine Ct_i (by decide) (Nat.le_of_ble_eq_true rfl) (fun {p e s m args below meth c A Q ls} hC hW hl hE => ?_)
  have hx := hC.1
  have hb := hC.2.1
  have hl : lv_has ls 5 [(0, .ref (zad G 12 0)), (1, .int (nI t)), (2, .int (nI a)), (3, .int w)] := hl
  refine lv_aload_n hx hb dX5_block_0 rfl (lv_at hl 0 rfl) ?_
  refine lv_iload_n hx hb dX5_block_1 rfl (lv_at hl 1 rfl) ?_
  refine z_callV (As := [.int (nI t)]) (rest := []) (st1 := [.int (bI (¬ badT n (nI t)))]) hC hW LL_12 rfl rfl rfl (c_X5_isTape l G C M hle hn (nI t)) mw_X5_isTape mv_X5_isTape mM_X5_129 ⟨Nat.le_of_ble_eq_true rfl, Nat.le_of_ble_eq_true rfl⟩ rfl rfl hl.1 (lv_room (Nat.le_of_ble_eq_true rfl)) dX5_block_2 rfl (fun H locs hW => ?_) ⟨Nat.zero_le _, Nat.zero_le _⟩
  refine zb_eq (tgt := 27) hx hb (¬ badT n (nI t)) rfl dX5_block_5 (by decide) (fun h5 => ?_) (fun h5 => ?_)
  · exact absurd (not_bad hle ht) h5
  · refine lv_iload_n hx hb dX5_block_8 rfl (lv_at hl 2 rfl) ?_
    refine lv_iconst (v := 0) hx hb dX5_block_9 (by decide) ?_
    refine lv_bipush (v := 99) hx hb dX5_block_10 (by decide) ?_
    refine z_callS (rest := []) (st1 := [.int (bI (inP (nI a) 0 99))]) hC hW (c_X5_in l G C M (nI a) 0 99) mw_X5_in mT_X5_in mM_X5_78 ⟨Nat.le_of_ble_eq_true rfl, Nat.le_of_ble_eq_true rfl⟩ rfl rfl hl.1 (lv_room (Nat.le_of_ble_eq_true rfl)) dX5_block_12 rfl (fun H locs hW => ?_) ⟨Nat.zero_le _, Nat.zero_le _⟩
    refine zb_eq (tgt := 27) hx hb (inP (nI a) 0 99) rfl dX5_block_15 (by decide) (fun h15 => ?_) (fun h15 => ?_)
    · exact absurd hp h15
    · refine lv_iload_n hx hb dX5_block_18 rfl (lv_at hl 3 rfl) ?_
      refine lv_iconst (v := 0) hx hb dX5_block_19 (by decide) ?_
      refine lv_iconst (v := 3) hx hb dX5_block_20 (by decide) ?_
      refine z_callS (rest := []) (st1 := [.int (bI (inP w 0 3))]) hC hW (c_X5_in l G C M w 0 3) mw_X5_in mT_X5_in mM_X5_78 ⟨Nat.le_of_ble_eq_true rfl, Nat.le_of_ble_eq_true rfl⟩ rfl rfl hl.1 (lv_room (Nat.le_of_ble_eq_true rfl)) dX5_block_21 rfl (fun H locs hW => ?_) ⟨Nat.zero_le _, Nat.zero_le _⟩
      refine zb_ne (tgt := 29) hx hb (inP w 0 3) rfl dX5_block_24 (by decide) (fun h24 => ?_) (fun h24 => ?_)
      · refine lv_bipush (v := 100) hx hb dX5_block_29 (by decide) ?_
        refine lv_iload_n hx hb dX5_block_31 rfl (lv_at hl 1 rfl) ?_
        refine zi_mul (i := 100) (j := t) hx hb rfl rfl dX5_block_32 ?_
        refine lv_iload_n hx hb dX5_block_33 rfl (lv_at hl 2 rfl) ?_
        refine zi_add (i := 100 * t) (j := a) hx hb rfl rfl dX5_block_34 ?_
        refine lv_istore (lv' := [(4, .int (nI (100 * t + a))), (0, .ref (zad G 12 0)), (1, .int (nI t)), (2, .int (nI a)), (3, .int w)]) hx hb dX5_block_35 hl (by decide) rfl (fun ls hl => ?_)
        refine lv_iload_n hx hb dX5_block_37 rfl (lv_at hl 4 rfl) ?_
        refine lv_if_ne (tgt := 51) hx hb dX5_block_38 (by decide) (fun h38 => ?_) (fun h38 => ?_)
        · refine lv_iload_n hx hb dX5_block_51 rfl (lv_at hl 4 rfl) ?_
          refine lv_iconst (v := 1) hx hb dX5_block_52 (by decide) ?_
          refine lv_icmp_ne (tgt := 66) hx hb dX5_block_53 (by decide) (fun h53 => ?_) (fun h53 => ?_)
          · refine lv_iload_n hx hb dX5_block_66 rfl (lv_at hl 4 rfl) ?_
            refine lv_iconst (v := 2) hx hb dX5_block_67 (by decide) ?_
            refine lv_icmp_ne (tgt := 81) hx hb dX5_block_68 (by decide) (fun h68 => ?_) (fun h68 => ?_)
            · refine lv_aload_n hx hb dX5_block_81 rfl (lv_at hl 1 rfl) ?_
              refine g12 (k := 8) (v := .ref (zad G 13 8)) hC hW (by decide) mF_X5_31 rfl dX5_block_82 ?_
              refine lv_iload hx hb dX5_block_85 (lv_at hl 0 rfl) ?_
              refine amz (i := 100 * t + a) (n := 1200) hC hW (by decide) rfl rfl (rfl) (by omega) dX5_block_87 ?_
              refine lv_if_eq (tgt := 95) hx hb dX5_block_88 (by decide) (fun h88 => ?_) (fun h88 => ?_)
              · refine lv_iconst (v := 0) hx hb dX5_block_95 (by decide) ?_
                have qr : (0 : Int32) = mblo M (100 * t + a) w := by unfold mblo; rw [if_neg h38, if_neg h53, if_neg h68]; exact bI_f (fun q => q h88)
                exact hE hW qr dX5_block_96
              · refine lv_iconst (v := 1) hx hb dX5_block_91 (by decide) ?_
                refine lv_goto (tgt := 96) hx hb dX5_block_92 (by decide) ?_
                have qr : (1 : Int32) = mblo M (100 * t + a) w := by unfold mblo; rw [if_neg h38, if_neg h53, if_neg h68]; exact bI_t h88
                exact hE hW qr dX5_block_96
            · refine lv_aload_n hx hb dX5_block_71 rfl (lv_at hl 1 rfl) ?_
              refine g12 (k := 7) (v := .ref (zad G 13 7)) hC hW (by decide) mF_X5_28 rfl dX5_block_72 ?_
              refine lv_iload hx hb dX5_block_75 (lv_at hl 0 rfl) ?_
              refine am (i := 100 * t + a) (n := 1200) hC hW (by decide) rfl rfl (rfl) (by omega) dX5_block_77 ?_
              refine lv_goto (tgt := 96) hx hb dX5_block_78 (by decide) ?_
              have qr : (mA M 7 (100 * t + a) : Int32) = mblo M (100 * t + a) w := by simp [mblo, h38, h53, h68]
              exact hE hW qr dX5_block_96
          · refine lv_aload_n hx hb dX5_block_56 rfl (lv_at hl 1 rfl) ?_
            refine g12 (k := 6) (v := .ref (zad G 13 6)) hC hW (by decide) mF_X5_25 rfl dX5_block_57 ?_
            refine lv_iload hx hb dX5_block_60 (lv_at hl 0 rfl) ?_
            refine am (i := 100 * t + a) (n := 1200) hC hW (by decide) rfl rfl (rfl) (by omega) dX5_block_62 ?_
            refine lv_goto (tgt := 96) hx hb dX5_block_63 (by decide) ?_
            have qr : (mA M 6 (100 * t + a) : Int32) = mblo M (100 * t + a) w := by simp [mblo, h38, h53]
            exact hE hW qr dX5_block_96
        · refine lv_aload_n hx hb dX5_block_41 rfl (lv_at hl 1 rfl) ?_
          refine g12 (k := 5) (v := .ref (zad G 13 5)) hC hW (by decide) mF_X5_22 rfl dX5_block_42 ?_
          refine lv_iload hx hb dX5_block_45 (lv_at hl 0 rfl) ?_
          refine am (i := 100 * t + a) (n := 1200) hC hW (by decide) rfl rfl (rfl) (by omega) dX5_block_47 ?_
          refine lv_goto (tgt := 96) hx hb dX5_block_48 (by decide) ?_
          have qr : (mA M 5 (100 * t + a) : Int32) = mblo M (100 * t + a) w := by simp [mblo, h38]
          exact hE hW qr dX5_block_96
      · exact absurd hw h24

set_option maxHeartbeats 4000000 in
set_option maxRecDepth 100000 in
theorem m_tt_b (l : Launch) (G : GG) (C : CS) (M : MS) {n : Nat} (hle : n ≤ 12) (hn : mF M 0 = nI n) {x : Int32} (hbx : badT n x) (w : Int32) : Ct l G yX5_tapeTold cX5_tapeTold 3 (some .int) 2 43 [.ref (zad G 12 0), .int x, .int w] C M (some (.int (-1))) C M := by
  refine Ct_i (by decide) (Nat.le_of_ble_eq_true rfl) (fun {p e s m args below meth c A Q ls} hC hW hl hE => ?_)
  have hx := hC.1
  have hb := hC.2.1
  have hl : lv_has ls 3 [(0, .ref (zad G 12 0)), (1, .int x), (2, .int w)] := hl
  refine lv_aload_n hx hb dX5_tapeTold_0 rfl (lv_at hl 0 rfl) ?_
  refine lv_iload_n hx hb dX5_tapeTold_1 rfl (lv_at hl 1 rfl) ?_
  refine z_callV (As := [.int x]) (rest := []) (st1 := [.int (bI (¬ badT n x))]) hC hW LL_12 rfl rfl rfl (c_X5_isTape l G C M hle hn x) mw_X5_isTape mv_X5_isTape mM_X5_129 ⟨Nat.le_of_ble_eq_true rfl, Nat.le_of_ble_eq_true rfl⟩ rfl rfl hl.1 (lv_room (Nat.le_of_ble_eq_true rfl)) dX5_tapeTold_2 rfl (fun H locs hW => ?_) ⟨Nat.zero_le _, Nat.zero_le _⟩
  refine zb_eq (tgt := 17) hx hb (¬ badT n x) rfl dX5_tapeTold_5 (by decide) (fun h5 => ?_) (fun h5 => ?_)
  · refine lv_iconst (v := (-1)) hx hb dX5_tapeTold_17 (by decide) ?_
    have qr : ((-1) : Int32) = -1 := by simp [bI, h5, cF_sF, cN_sN, cB_sB, cM_sM, cN_sF, cB_sF, cM_sF, cF_sN, cB_sN, cM_sN, cF_sB, cN_sB, cM_sB, cF_sM, cN_sM, cB_sM, mF_smF, mA_smF, mF_smA, mA_smA]
    exact hE hW qr dX5_tapeTold_18
  · exact absurd hbx h5

set_option maxHeartbeats 4000000 in
set_option maxRecDepth 100000 in
theorem m_tt_w (l : Launch) (G : GG) (C : CS) (M : MS) {n : Nat} (hle : n ≤ 12) (hn : mF M 0 = nI n) {t : Nat} (ht : t < n) {w : Int32} (hw : ¬ inP w 0 3) : Ct l G yX5_tapeTold cX5_tapeTold 3 (some .int) 2 43 [.ref (zad G 12 0), .int (nI t), .int w] C M (some (.int (-1))) C M := by
  refine Ct_i (by decide) (Nat.le_of_ble_eq_true rfl) (fun {p e s m args below meth c A Q ls} hC hW hl hE => ?_)
  have hx := hC.1
  have hb := hC.2.1
  have hl : lv_has ls 3 [(0, .ref (zad G 12 0)), (1, .int (nI t)), (2, .int w)] := hl
  refine lv_aload_n hx hb dX5_tapeTold_0 rfl (lv_at hl 0 rfl) ?_
  refine lv_iload_n hx hb dX5_tapeTold_1 rfl (lv_at hl 1 rfl) ?_
  refine z_callV (As := [.int (nI t)]) (rest := []) (st1 := [.int (bI (¬ badT n (nI t)))]) hC hW LL_12 rfl rfl rfl (c_X5_isTape l G C M hle hn (nI t)) mw_X5_isTape mv_X5_isTape mM_X5_129 ⟨Nat.le_of_ble_eq_true rfl, Nat.le_of_ble_eq_true rfl⟩ rfl rfl hl.1 (lv_room (Nat.le_of_ble_eq_true rfl)) dX5_tapeTold_2 rfl (fun H locs hW => ?_) ⟨Nat.zero_le _, Nat.zero_le _⟩
  refine zb_eq (tgt := 17) hx hb (¬ badT n (nI t)) rfl dX5_tapeTold_5 (by decide) (fun h5 => ?_) (fun h5 => ?_)
  · exact absurd (not_bad hle ht) h5
  · refine lv_iload_n hx hb dX5_tapeTold_8 rfl (lv_at hl 2 rfl) ?_
    refine lv_iconst (v := 0) hx hb dX5_tapeTold_9 (by decide) ?_
    refine lv_iconst (v := 3) hx hb dX5_tapeTold_10 (by decide) ?_
    refine z_callS (rest := []) (st1 := [.int (bI (inP w 0 3))]) hC hW (c_X5_in l G C M w 0 3) mw_X5_in mT_X5_in mM_X5_78 ⟨Nat.le_of_ble_eq_true rfl, Nat.le_of_ble_eq_true rfl⟩ rfl rfl hl.1 (lv_room (Nat.le_of_ble_eq_true rfl)) dX5_tapeTold_11 rfl (fun H locs hW => ?_) ⟨Nat.zero_le _, Nat.zero_le _⟩
    refine zb_ne (tgt := 19) hx hb (inP w 0 3) rfl dX5_tapeTold_14 (by decide) (fun h14 => ?_) (fun h14 => ?_)
    · exact absurd h14 hw
    · refine lv_iconst (v := (-1)) hx hb dX5_tapeTold_17 (by decide) ?_
      have qr : ((-1) : Int32) = -1 := by simp [bI, h5, h14, cF_sF, cN_sN, cB_sB, cM_sM, cN_sF, cB_sF, cM_sF, cF_sN, cB_sN, cM_sN, cF_sB, cN_sB, cM_sB, cF_sM, cN_sM, cB_sM, mF_smF, mA_smF, mF_smA, mA_smA]
      exact hE hW qr dX5_tapeTold_18

set_option maxHeartbeats 4000000 in
set_option maxRecDepth 100000 in
theorem m_tt_1 (l : Launch) (G : GG) (C : CS) (M : MS) {n : Nat} (hle : n ≤ 12) (hn : mF M 0 = nI n) {t : Nat} (ht : t < n) {w : Int32} (hw : inP w 0 3) : Ct l G yX5_tapeTold cX5_tapeTold 3 (some .int) 2 43 [.ref (zad G 12 0), .int (nI t), .int w] C M (some (.int (mtt M t w))) C M := by
  refine Ct_i (by decide) (Nat.le_of_ble_eq_true rfl) (fun {p e s m args below meth c A Q ls} hC hW hl hE => ?_)
  have hx := hC.1
  have hb := hC.2.1
  have hl : lv_has ls 3 [(0, .ref (zad G 12 0)), (1, .int (nI t)), (2, .int w)] := hl
  refine lv_aload_n hx hb dX5_tapeTold_0 rfl (lv_at hl 0 rfl) ?_
  refine lv_iload_n hx hb dX5_tapeTold_1 rfl (lv_at hl 1 rfl) ?_
  refine z_callV (As := [.int (nI t)]) (rest := []) (st1 := [.int (bI (¬ badT n (nI t)))]) hC hW LL_12 rfl rfl rfl (c_X5_isTape l G C M hle hn (nI t)) mw_X5_isTape mv_X5_isTape mM_X5_129 ⟨Nat.le_of_ble_eq_true rfl, Nat.le_of_ble_eq_true rfl⟩ rfl rfl hl.1 (lv_room (Nat.le_of_ble_eq_true rfl)) dX5_tapeTold_2 rfl (fun H locs hW => ?_) ⟨Nat.zero_le _, Nat.zero_le _⟩
  refine zb_eq (tgt := 17) hx hb (¬ badT n (nI t)) rfl dX5_tapeTold_5 (by decide) (fun h5 => ?_) (fun h5 => ?_)
  · exact absurd (not_bad hle ht) h5
  · refine lv_iload_n hx hb dX5_tapeTold_8 rfl (lv_at hl 2 rfl) ?_
    refine lv_iconst (v := 0) hx hb dX5_tapeTold_9 (by decide) ?_
    refine lv_iconst (v := 3) hx hb dX5_tapeTold_10 (by decide) ?_
    refine z_callS (rest := []) (st1 := [.int (bI (inP w 0 3))]) hC hW (c_X5_in l G C M w 0 3) mw_X5_in mT_X5_in mM_X5_78 ⟨Nat.le_of_ble_eq_true rfl, Nat.le_of_ble_eq_true rfl⟩ rfl rfl hl.1 (lv_room (Nat.le_of_ble_eq_true rfl)) dX5_tapeTold_11 rfl (fun H locs hW => ?_) ⟨Nat.zero_le _, Nat.zero_le _⟩
    refine zb_ne (tgt := 19) hx hb (inP w 0 3) rfl dX5_tapeTold_14 (by decide) (fun h14 => ?_) (fun h14 => ?_)
    · refine lv_iload_n hx hb dX5_tapeTold_19 rfl (lv_at hl 2 rfl) ?_
      refine lv_if_ne (tgt := 32) hx hb dX5_tapeTold_20 (by decide) (fun h20 => ?_) (fun h20 => ?_)
      · refine lv_iload_n hx hb dX5_tapeTold_32 rfl (lv_at hl 2 rfl) ?_
        refine lv_iconst (v := 1) hx hb dX5_tapeTold_33 (by decide) ?_
        refine lv_icmp_ne (tgt := 46) hx hb dX5_tapeTold_34 (by decide) (fun h34 => ?_) (fun h34 => ?_)
        · refine lv_iload_n hx hb dX5_tapeTold_46 rfl (lv_at hl 2 rfl) ?_
          refine lv_iconst (v := 2) hx hb dX5_tapeTold_47 (by decide) ?_
          refine lv_icmp_ne (tgt := 60) hx hb dX5_tapeTold_48 (by decide) (fun h48 => ?_) (fun h48 => ?_)
          · refine lv_aload_n hx hb dX5_tapeTold_60 rfl (lv_at hl 0 rfl) ?_
            refine g12 (k := 4) (v := .ref (zad G 13 4)) hC hW (by decide) mF_X5_19 rfl dX5_tapeTold_61 ?_
            refine lv_iload_n hx hb dX5_tapeTold_64 rfl (lv_at hl 1 rfl) ?_
            refine am (i := t) (n := 12) hC hW (by decide) rfl rfl (rfl) (by omega) dX5_tapeTold_65 ?_
            have qr : (mA M 4 t : Int32) = mtt M t w := by simp [mtt, h20, h34, h48]
            exact hE hW qr dX5_tapeTold_66
          · refine lv_aload_n hx hb dX5_tapeTold_51 rfl (lv_at hl 0 rfl) ?_
            refine g12 (k := 3) (v := .ref (zad G 13 3)) hC hW (by decide) mF_X5_16 rfl dX5_tapeTold_52 ?_
            refine lv_iload_n hx hb dX5_tapeTold_55 rfl (lv_at hl 1 rfl) ?_
            refine am (i := t) (n := 12) hC hW (by decide) rfl rfl (rfl) (by omega) dX5_tapeTold_56 ?_
            refine lv_goto (tgt := 66) hx hb dX5_tapeTold_57 (by decide) ?_
            have qr : (mA M 3 t : Int32) = mtt M t w := by simp [mtt, h20, h34, h48]
            exact hE hW qr dX5_tapeTold_66
        · refine lv_aload_n hx hb dX5_tapeTold_37 rfl (lv_at hl 0 rfl) ?_
          refine g12 (k := 2) (v := .ref (zad G 13 2)) hC hW (by decide) mF_X5_13 rfl dX5_tapeTold_38 ?_
          refine lv_iload_n hx hb dX5_tapeTold_41 rfl (lv_at hl 1 rfl) ?_
          refine am (i := t) (n := 12) hC hW (by decide) rfl rfl (rfl) (by omega) dX5_tapeTold_42 ?_
          refine lv_goto (tgt := 66) hx hb dX5_tapeTold_43 (by decide) ?_
          have qr : (mA M 2 t : Int32) = mtt M t w := by simp [mtt, h20, h34]
          exact hE hW qr dX5_tapeTold_66
      · refine lv_aload_n hx hb dX5_tapeTold_23 rfl (lv_at hl 0 rfl) ?_
        refine g12 (k := 1) (v := .ref (zad G 13 1)) hC hW (by decide) mF_X5_7 rfl dX5_tapeTold_24 ?_
        refine lv_iload_n hx hb dX5_tapeTold_27 rfl (lv_at hl 1 rfl) ?_
        refine am (i := t) (n := 12) hC hW (by decide) rfl rfl (rfl) (by omega) dX5_tapeTold_28 ?_
        refine lv_goto (tgt := 66) hx hb dX5_tapeTold_29 (by decide) ?_
        have qr : (mA M 1 t : Int32) = mtt M t w := by simp [mtt, h20]
        exact hE hW qr dX5_tapeTold_66
    · exact absurd hw h14

set_option maxHeartbeats 4000000 in
set_option maxRecDepth 100000 in
theorem m_dt_b (l : Launch) (G : GG) (C : CS) (M : MS) {x : Int32} (hbx : ¬ inP x 0 2) (w : Int32) : Ct l G yX5_driveTold cX5_driveTold 3 (some .int) 1 22 [.ref (zad G 12 0), .int x, .int w] C M (some (.int (-1))) C M := by
  refine Ct_i (by decide) (Nat.le_of_ble_eq_true rfl) (fun {p e s m args below meth c A Q ls} hC hW hl hE => ?_)
  have hx := hC.1
  have hb := hC.2.1
  have hl : lv_has ls 3 [(0, .ref (zad G 12 0)), (1, .int x), (2, .int w)] := hl
  refine lv_iload_n hx hb dX5_driveTold_0 rfl (lv_at hl 1 rfl) ?_
  refine lv_iconst (v := 0) hx hb dX5_driveTold_1 (by decide) ?_
  refine lv_iconst (v := 2) hx hb dX5_driveTold_2 (by decide) ?_
  refine z_callS (rest := []) (st1 := [.int (bI (inP x 0 2))]) hC hW (c_X5_in l G C M x 0 2) mw_X5_in mT_X5_in mM_X5_78 ⟨Nat.le_of_ble_eq_true rfl, Nat.le_of_ble_eq_true rfl⟩ rfl rfl hl.1 (lv_room (Nat.le_of_ble_eq_true rfl)) dX5_driveTold_3 rfl (fun H locs hW => ?_) ⟨Nat.zero_le _, Nat.zero_le _⟩
  refine zb_eq (tgt := 18) hx hb (inP x 0 2) rfl dX5_driveTold_6 (by decide) (fun h6 => ?_) (fun h6 => ?_)
  · refine lv_iconst (v := (-1)) hx hb dX5_driveTold_18 (by decide) ?_
    have qr : ((-1) : Int32) = -1 := by simp [bI, h6, cF_sF, cN_sN, cB_sB, cM_sM, cN_sF, cB_sF, cM_sF, cF_sN, cB_sN, cM_sN, cF_sB, cN_sB, cM_sB, cF_sM, cN_sM, cB_sM, mF_smF, mA_smF, mF_smA, mA_smA]
    exact hE hW qr dX5_driveTold_19
  · exact absurd h6 hbx

set_option maxHeartbeats 4000000 in
set_option maxRecDepth 100000 in
theorem m_dt_w (l : Launch) (G : GG) (C : CS) (M : MS) {d : Nat} (hd : d < 3) (hi : inP (nI d) 0 2) {w : Int32} (hw : ¬ inP w 0 2) : Ct l G yX5_driveTold cX5_driveTold 3 (some .int) 1 22 [.ref (zad G 12 0), .int (nI d), .int w] C M (some (.int (-1))) C M := by
  refine Ct_i (by decide) (Nat.le_of_ble_eq_true rfl) (fun {p e s m args below meth c A Q ls} hC hW hl hE => ?_)
  have hx := hC.1
  have hb := hC.2.1
  have hl : lv_has ls 3 [(0, .ref (zad G 12 0)), (1, .int (nI d)), (2, .int w)] := hl
  refine lv_iload_n hx hb dX5_driveTold_0 rfl (lv_at hl 1 rfl) ?_
  refine lv_iconst (v := 0) hx hb dX5_driveTold_1 (by decide) ?_
  refine lv_iconst (v := 2) hx hb dX5_driveTold_2 (by decide) ?_
  refine z_callS (rest := []) (st1 := [.int (bI (inP (nI d) 0 2))]) hC hW (c_X5_in l G C M (nI d) 0 2) mw_X5_in mT_X5_in mM_X5_78 ⟨Nat.le_of_ble_eq_true rfl, Nat.le_of_ble_eq_true rfl⟩ rfl rfl hl.1 (lv_room (Nat.le_of_ble_eq_true rfl)) dX5_driveTold_3 rfl (fun H locs hW => ?_) ⟨Nat.zero_le _, Nat.zero_le _⟩
  refine zb_eq (tgt := 18) hx hb (inP (nI d) 0 2) rfl dX5_driveTold_6 (by decide) (fun h6 => ?_) (fun h6 => ?_)
  · exact absurd hi h6
  · refine lv_iload_n hx hb dX5_driveTold_9 rfl (lv_at hl 2 rfl) ?_
    refine lv_iconst (v := 0) hx hb dX5_driveTold_10 (by decide) ?_
    refine lv_iconst (v := 2) hx hb dX5_driveTold_11 (by decide) ?_
    refine z_callS (rest := []) (st1 := [.int (bI (inP w 0 2))]) hC hW (c_X5_in l G C M w 0 2) mw_X5_in mT_X5_in mM_X5_78 ⟨Nat.le_of_ble_eq_true rfl, Nat.le_of_ble_eq_true rfl⟩ rfl rfl hl.1 (lv_room (Nat.le_of_ble_eq_true rfl)) dX5_driveTold_12 rfl (fun H locs hW => ?_) ⟨Nat.zero_le _, Nat.zero_le _⟩
    refine zb_ne (tgt := 20) hx hb (inP w 0 2) rfl dX5_driveTold_15 (by decide) (fun h15 => ?_) (fun h15 => ?_)
    · exact absurd h15 hw
    · refine lv_iconst (v := (-1)) hx hb dX5_driveTold_18 (by decide) ?_
      have qr : ((-1) : Int32) = -1 := by simp [bI, h6, h15, cF_sF, cN_sN, cB_sB, cM_sM, cN_sF, cB_sF, cM_sF, cF_sN, cB_sN, cM_sN, cF_sB, cN_sB, cM_sB, cF_sM, cN_sM, cB_sM, mF_smF, mA_smF, mF_smA, mA_smA]
      exact hE hW qr dX5_driveTold_19

set_option maxHeartbeats 4000000 in
set_option maxRecDepth 100000 in
theorem m_dt_1 (l : Launch) (G : GG) (C : CS) (M : MS) {d : Nat} (hd : d < 3) (hi : inP (nI d) 0 2) {w : Int32} (hw : inP w 0 2) : Ct l G yX5_driveTold cX5_driveTold 3 (some .int) 1 22 [.ref (zad G 12 0), .int (nI d), .int w] C M (some (.int (mdt M d w))) C M := by
  refine Ct_i (by decide) (Nat.le_of_ble_eq_true rfl) (fun {p e s m args below meth c A Q ls} hC hW hl hE => ?_)
  have hx := hC.1
  have hb := hC.2.1
  have hl : lv_has ls 3 [(0, .ref (zad G 12 0)), (1, .int (nI d)), (2, .int w)] := hl
  refine lv_iload_n hx hb dX5_driveTold_0 rfl (lv_at hl 1 rfl) ?_
  refine lv_iconst (v := 0) hx hb dX5_driveTold_1 (by decide) ?_
  refine lv_iconst (v := 2) hx hb dX5_driveTold_2 (by decide) ?_
  refine z_callS (rest := []) (st1 := [.int (bI (inP (nI d) 0 2))]) hC hW (c_X5_in l G C M (nI d) 0 2) mw_X5_in mT_X5_in mM_X5_78 ⟨Nat.le_of_ble_eq_true rfl, Nat.le_of_ble_eq_true rfl⟩ rfl rfl hl.1 (lv_room (Nat.le_of_ble_eq_true rfl)) dX5_driveTold_3 rfl (fun H locs hW => ?_) ⟨Nat.zero_le _, Nat.zero_le _⟩
  refine zb_eq (tgt := 18) hx hb (inP (nI d) 0 2) rfl dX5_driveTold_6 (by decide) (fun h6 => ?_) (fun h6 => ?_)
  · exact absurd hi h6
  · refine lv_iload_n hx hb dX5_driveTold_9 rfl (lv_at hl 2 rfl) ?_
    refine lv_iconst (v := 0) hx hb dX5_driveTold_10 (by decide) ?_
    refine lv_iconst (v := 2) hx hb dX5_driveTold_11 (by decide) ?_
    refine z_callS (rest := []) (st1 := [.int (bI (inP w 0 2))]) hC hW (c_X5_in l G C M w 0 2) mw_X5_in mT_X5_in mM_X5_78 ⟨Nat.le_of_ble_eq_true rfl, Nat.le_of_ble_eq_true rfl⟩ rfl rfl hl.1 (lv_room (Nat.le_of_ble_eq_true rfl)) dX5_driveTold_12 rfl (fun H locs hW => ?_) ⟨Nat.zero_le _, Nat.zero_le _⟩
    refine zb_ne (tgt := 20) hx hb (inP w 0 2) rfl dX5_driveTold_15 (by decide) (fun h15 => ?_) (fun h15 => ?_)
    · refine lv_iload_n hx hb dX5_driveTold_20 rfl (lv_at hl 2 rfl) ?_
      refine lv_if_ne (tgt := 33) hx hb dX5_driveTold_21 (by decide) (fun h21 => ?_) (fun h21 => ?_)
      · refine lv_iload_n hx hb dX5_driveTold_33 rfl (lv_at hl 2 rfl) ?_
        refine lv_iconst (v := 1) hx hb dX5_driveTold_34 (by decide) ?_
        refine lv_icmp_ne (tgt := 47) hx hb dX5_driveTold_35 (by decide) (fun h35 => ?_) (fun h35 => ?_)
        · refine lv_aload_n hx hb dX5_driveTold_47 rfl (lv_at hl 0 rfl) ?_
          refine g12 (k := 11) (v := .ref (zad G 13 11)) hC hW (by decide) mF_X5_41 rfl dX5_driveTold_48 ?_
          refine lv_iload_n hx hb dX5_driveTold_51 rfl (lv_at hl 1 rfl) ?_
          refine amz (i := d) (n := 3) hC hW (by decide) rfl rfl (rfl) (by omega) dX5_driveTold_52 ?_
          refine lv_if_eq (tgt := 60) hx hb dX5_driveTold_53 (by decide) (fun h53 => ?_) (fun h53 => ?_)
          · refine lv_iconst (v := 0) hx hb dX5_driveTold_60 (by decide) ?_
            have qr : (0 : Int32) = mdt M d w := by unfold mdt; rw [if_neg h21, if_neg h35]; exact bI_f (fun q => q h53)
            exact hE hW qr dX5_driveTold_61
          · refine lv_iconst (v := 1) hx hb dX5_driveTold_56 (by decide) ?_
            refine lv_goto (tgt := 61) hx hb dX5_driveTold_57 (by decide) ?_
            have qr : (1 : Int32) = mdt M d w := by unfold mdt; rw [if_neg h21, if_neg h35]; exact bI_t h53
            exact hE hW qr dX5_driveTold_61
        · refine lv_aload_n hx hb dX5_driveTold_38 rfl (lv_at hl 0 rfl) ?_
          refine g12 (k := 14) (v := .ref (zad G 13 14)) hC hW (by decide) mF_X5_50 rfl dX5_driveTold_39 ?_
          refine lv_iload_n hx hb dX5_driveTold_42 rfl (lv_at hl 1 rfl) ?_
          refine am (i := d) (n := 3) hC hW (by decide) rfl rfl (rfl) (by omega) dX5_driveTold_43 ?_
          refine lv_goto (tgt := 61) hx hb dX5_driveTold_44 (by decide) ?_
          have qr : (mA M 14 d : Int32) = mdt M d w := by simp [mdt, h21, h35]
          exact hE hW qr dX5_driveTold_61
      · refine lv_aload_n hx hb dX5_driveTold_24 rfl (lv_at hl 0 rfl) ?_
        refine g12 (k := 13) (v := .ref (zad G 13 13)) hC hW (by decide) mF_X5_47 rfl dX5_driveTold_25 ?_
        refine lv_iload_n hx hb dX5_driveTold_28 rfl (lv_at hl 1 rfl) ?_
        refine am (i := d) (n := 3) hC hW (by decide) rfl rfl (rfl) (by omega) dX5_driveTold_29 ?_
        refine lv_goto (tgt := 61) hx hb dX5_driveTold_30 (by decide) ?_
        have qr : (mA M 13 d : Int32) = mdt M d w := by simp [mdt, h21]
        exact hE hW qr dX5_driveTold_61
    · exact absurd hw h15

set_option maxHeartbeats 4000000 in
set_option maxRecDepth 100000 in
theorem m_told (l : Launch) (G : GG) (C : CS) (M : MS) (w : Int32) : Ct l G yX5_told cX5_told 2 (some .int) 0 0 [.ref (zad G 12 0), .int w] C M (some (.int (mto M w))) C M := by
  refine Ct_i (by decide) (Nat.le_of_ble_eq_true rfl) (fun {p e s m args below meth c A Q ls} hC hW hl hE => ?_)
  have hx := hC.1
  have hb := hC.2.1
  have hl : lv_has ls 2 [(0, .ref (zad G 12 0)), (1, .int w)] := hl
  refine lv_iload_n hx hb dX5_told_0 rfl (lv_at hl 1 rfl) ?_
  refine lv_if_ne (tgt := 11) hx hb dX5_told_1 (by decide) (fun h1 => ?_) (fun h1 => ?_)
  · refine lv_iload_n hx hb dX5_told_11 rfl (lv_at hl 1 rfl) ?_
    refine lv_iconst (v := 1) hx hb dX5_told_12 (by decide) ?_
    refine lv_icmp_ne (tgt := 23) hx hb dX5_told_13 (by decide) (fun h13 => ?_) (fun h13 => ?_)
    · refine lv_iload_n hx hb dX5_told_23 rfl (lv_at hl 1 rfl) ?_
      refine lv_iconst (v := 2) hx hb dX5_told_24 (by decide) ?_
      refine lv_icmp_ne (tgt := 35) hx hb dX5_told_25 (by decide) (fun h25 => ?_) (fun h25 => ?_)
      · refine lv_iload_n hx hb dX5_told_35 rfl (lv_at hl 1 rfl) ?_
        refine lv_iconst (v := 3) hx hb dX5_told_36 (by decide) ?_
        refine lv_icmp_ne (tgt := 47) hx hb dX5_told_37 (by decide) (fun h37 => ?_) (fun h37 => ?_)
        · refine lv_iload_n hx hb dX5_told_47 rfl (lv_at hl 1 rfl) ?_
          refine lv_iconst (v := 4) hx hb dX5_told_48 (by decide) ?_
          refine lv_icmp_ne (tgt := 59) hx hb dX5_told_49 (by decide) (fun h49 => ?_) (fun h49 => ?_)
          · refine lv_iconst (v := (-1)) hx hb dX5_told_59 (by decide) ?_
            have qr : ((-1) : Int32) = mto M w := by simp [mto, h1, h13, h25, h37, h49]
            exact hE hW qr dX5_told_60
          · refine lv_aload_n hx hb dX5_told_52 rfl (lv_at hl 0 rfl) ?_
            refine g12 (k := 29) (v := .int (mF M 29)) hC hW (by decide) mF_X5_72 rfl dX5_told_53 ?_
            refine lv_goto (tgt := 60) hx hb dX5_told_56 (by decide) ?_
            have qr : (mF M 29 : Int32) = mto M w := by simp [mto, h1, h13, h25, h37, h49]
            exact hE hW qr dX5_told_60
        · refine lv_aload_n hx hb dX5_told_40 rfl (lv_at hl 0 rfl) ?_
          refine g12 (k := 28) (v := .int (mF M 28)) hC hW (by decide) mF_X5_110 rfl dX5_told_41 ?_
          refine lv_goto (tgt := 60) hx hb dX5_told_44 (by decide) ?_
          have qr : (mF M 28 : Int32) = mto M w := by simp [mto, h1, h13, h25, h37]
          exact hE hW qr dX5_told_60
      · refine lv_aload_n hx hb dX5_told_28 rfl (lv_at hl 0 rfl) ?_
        refine g12 (k := 27) (v := .int (mF M 27)) hC hW (by decide) mF_X5_107 rfl dX5_told_29 ?_
        refine lv_goto (tgt := 60) hx hb dX5_told_32 (by decide) ?_
        have qr : (mF M 27 : Int32) = mto M w := by simp [mto, h1, h13, h25]
        exact hE hW qr dX5_told_60
    · refine lv_aload_n hx hb dX5_told_16 rfl (lv_at hl 0 rfl) ?_
      refine g12 (k := 26) (v := .int (mF M 26)) hC hW (by decide) mF_X5_96 rfl dX5_told_17 ?_
      refine lv_goto (tgt := 60) hx hb dX5_told_20 (by decide) ?_
      have qr : (mF M 26 : Int32) = mto M w := by simp [mto, h1, h13]
      exact hE hW qr dX5_told_60
  · refine lv_aload_n hx hb dX5_told_4 rfl (lv_at hl 0 rfl) ?_
    refine g12 (k := 25) (v := .int (mF M 25)) hC hW (by decide) mF_X5_85 rfl dX5_told_5 ?_
    refine lv_goto (tgt := 60) hx hb dX5_told_8 (by decide) ?_
    have qr : (mF M 25 : Int32) = mto M w := by simp [mto, h1]
    exact hE hW qr dX5_told_60

set_option maxHeartbeats 4000000 in
set_option maxRecDepth 100000 in
theorem m_fold (l : Launch) (G : GG) (C : CS) (M : MS)  : Ct l G yX5_fold cX5_fold 1 (some .int) 0 0 [.ref (zad G 12 0)] C M (some (.int (mF M 24))) C M := by
  refine Ct_i (by decide) (Nat.le_of_ble_eq_true rfl) (fun {p e s m args below meth c A Q ls} hC hW hl hE => ?_)
  have hx := hC.1
  have hb := hC.2.1
  have hl : lv_has ls 1 [(0, .ref (zad G 12 0))] := hl
  refine lv_aload_n hx hb dX5_fold_0 rfl (lv_at hl 0 rfl) ?_
  refine g12 (k := 24) (v := .int (mF M 24)) hC hW (by decide) mF_X5_68 rfl dX5_fold_1 ?_
  exact hE hW rfl dX5_fold_4

