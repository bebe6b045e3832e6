/-! ===== the reference: move ===== -/
theorem Kp_un {M : MS} {mm m2 d t : Nat} (_ : mm ≠ m2) : Kp M (munM M m2 d t) mm := ⟨fun j hj => munM_A (by omega), fun z => by unfold munM at z; rw [munm_F (by decide)] at z; exact z⟩
theorem Kp_clo {M : MS} {mm m2 d t b : Nat} (h : mm ≠ m2) : Kp M (mclM M m2 d t b) mm := by
  unfold mclM; split
  · exact Kp.rf
  · split
    · exact Kp.rf
    · unfold mclo; split
      · exact Kp.rf
      · split
        · exact Kp.rf
        · split
          · exact (show Kp M (mclo1 M t (mN M 2 t)) mm from by unfold mclo1; exact (Kp_F (by decide)).tr Kp_put).tr (Kp_A (Or.inr (Ne.symm h)))
          · exact Kp.rf
theorem moD_1 {M : MS} {t h d : Nat} (h0 : mF M 30 = 0) : Kp M (moD M 1 t h d) 0 := ⟨fun j hj => moD_A (by omega) (Or.inr (by decide)), fun _ => h0⟩
def mmvS (M : MS) (d1 t1 d2 t2 q1 q2 : Nat) : MS := mwr1 (mtak M 0 d1 t1 q1) 1 d2 t2 q2 (mA (mtak M 0 d1 t1 q1) 5 (100 * t1 + q1)) (mA (mtak M 0 d1 t1 q1) 6 (100 * t1 + q1)) (mA (mtak M 0 d1 t1 q1) 7 (100 * t1 + q1))
def mmvL (d1 t1 d2 t2 : Nat) : Nat → Nat → Nat → MS → MS
  | 0, _, _, M => M
  | k + 1, q1, q2, M => if mF M 30 ≠ 0 then M else mmvL d1 t1 d2 t2 k (q1 + 1) (q2 + 1) (mmvS M d1 t1 d2 t2 q1 q2)
def mmvW (M : MS) (pp e0 : Nat) : MS := mwin (mwin M 0 0 pp) 1 0 e0
def mmvX (M : MS) (d1 t1 d2 t2 pp z e0 : Nat) : MS := mmvL d1 t1 d2 t2 (z + 2) pp e0 (mmvW M pp e0)
def mmvK (M : MS) (t1 t2 nm e0 : Nat) : MS := if mF M 30 = 0 then smA (smA M 9 (1000 * t2 + nm) (nI (e0 + 1))) 9 (1000 * t1 + nm) 0 else M
def mmvU (M : MS) (d1 t1 d2 t2 e0 : Nat) : MS := munM (munM (mclM M 1 d2 t2 e0) 1 d2 t2) 0 d1 t1
def mmvD (M : MS) (d1 t1 d2 t2 nm pp z e0 : Nat) : MS := mmvU (mmvK (mmvX M d1 t1 d2 t2 pp z e0) t1 t2 nm e0) d1 t1 d2 t2 e0
/-- a first mount's end: there was none, or it has a drive -/
def Ue (M F : MS) : Prop := (mA M 15 0 = -1 ∧ F = M) ∨ ∃ d t, Un M 0 d t ∧ F = munM M 0 d t
theorem c_unmount_e (l : Launch) (G : GG) (C : CS) {M F : MS} (h : Ue M F) : Ct l G yX5_unmount cX5_unmount 2 none 0 0 [.ref (zad G 12 0), .int (nI 0)] C M none C F := by
  rcases h with ⟨h, rfl⟩ | ⟨d, t, h, rfl⟩
  · exact c_X5_unmount_n l G C _ (by decide) h
  · exact c_unmount l G C M (by decide) h
theorem c_mount_f (l : Launch) (G : GG) (C : CS) (M : MS) {mm : Nat} (hm : mm < 2) (h0 : mF M 30 ≠ 0) {t : Nat} (ht : t < 12) : Ct l G yX5_mount cX5_mount 5 none 1 22 [.ref (zad G 12 0), .int (nI mm), .int (nI t)] C M none C (mo0 M mm) := c_X5_mount_f l G C M hm h0 ht

set_option maxHeartbeats 4000000 in
set_option maxRecDepth 100000 in
theorem m_mov_n (l : Launch) (G : GG) (C : CS) (M : MS) {x : Int32} (hn : ¬ nameP x) (y z : Int32) : Ct l G yX5_move cX5_move 9 (some .int) 3 67 [.ref (zad G 12 0), .int x, .int y, .int z] C M (some (.int (-1))) C M := by
  refine Ct_i (by decide) (Nat.le_of_ble_eq_true rfl) (fun {p e s m args below meth c A Q ls} hC hW hl hE => ?_)
  have hx := hC.1
  have hb := hC.2.1
  have hl : lv_has ls 9 [(0, .ref (zad G 12 0)), (1, .int x), (2, .int y), (3, .int z)] := hl
  refine lv_iload_n hx hb dX5_move_0 rfl (lv_at hl 1 rfl) ?_
  refine z_callS (rest := []) (st1 := [.int (bI (nameP x))]) hC hW (c_X5_isName l G C M x) mw_X5_isName mT_X5_isName mM_X5_113 ⟨Nat.le_of_ble_eq_true rfl, Nat.le_of_ble_eq_true rfl⟩ rfl rfl hl.1 (lv_room (Nat.le_of_ble_eq_true rfl)) dX5_move_1 rfl (fun H locs hW => ?_) ⟨Nat.zero_le _, Nat.zero_le _⟩
  refine zb_eq (tgt := 28) hx hb (nameP x) rfl dX5_move_4 (by decide) (fun h4 => ?_) (fun h4 => ?_)
  · refine lv_iconst (v := (-1)) hx hb dX5_move_28 (by decide) ?_
    have qr : ((-1) : Int32) = -1 := by simp [bI, h4, cF_sF, cN_sN, cB_sB, cM_sM, cN_sF, cB_sF, cM_sF, cF_sN, cB_sN, cM_sN, cF_sB, cN_sB, cM_sB, cF_sM, cN_sM, cB_sM, mF_smF, mA_smF, mF_smA, mA_smA]
    exact hE hW qr dX5_move_29
  · exact absurd h4 hn

set_option maxHeartbeats 4000000 in
set_option maxRecDepth 100000 in
theorem m_mov_b (l : Launch) (G : GG) (C : CS) (M : MS) {n : Nat} (hle : n ≤ 12) (hn : mF M 0 = nI n) {x y : Int32} (hnm : nameP x) (hby : badT n y) (z : Int32) : Ct l G yX5_move cX5_move 9 (some .int) 3 67 [.ref (zad G 12 0), .int x, .int y, .int z] C M (some (.int (-1))) C M := by
  refine Ct_i (by decide) (Nat.le_of_ble_eq_true rfl) (fun {p e s m args below meth c A Q ls} hC hW hl hE => ?_)
  have hx := hC.1
  have hb := hC.2.1
  have hl : lv_has ls 9 [(0, .ref (zad G 12 0)), (1, .int x), (2, .int y), (3, .int z)] := hl
  refine lv_iload_n hx hb dX5_move_0 rfl (lv_at hl 1 rfl) ?_
  refine z_callS (rest := []) (st1 := [.int (bI (nameP x))]) hC hW (c_X5_isName l G C M x) mw_X5_isName mT_X5_isName mM_X5_113 ⟨Nat.le_of_ble_eq_true rfl, Nat.le_of_ble_eq_true rfl⟩ rfl rfl hl.1 (lv_room (Nat.le_of_ble_eq_true rfl)) dX5_move_1 rfl (fun H locs hW => ?_) ⟨Nat.zero_le _, Nat.zero_le _⟩
  refine zb_eq (tgt := 28) hx hb (nameP x) rfl dX5_move_4 (by decide) (fun h4 => ?_) (fun h4 => ?_)
  · exact absurd hnm h4
  · refine lv_aload_n hx hb dX5_move_7 rfl (lv_at hl 0 rfl) ?_
    refine lv_iload_n hx hb dX5_move_8 rfl (lv_at hl 2 rfl) ?_
    refine z_callV (As := [.int y]) (rest := []) (st1 := [.int (bI (¬ badT n y))]) hC hW LL_12 rfl rfl rfl (c_X5_isTape l G C M hle hn y) mw_X5_isTape mv_X5_isTape mM_X5_129 ⟨Nat.le_of_ble_eq_true rfl, Nat.le_of_ble_eq_true rfl⟩ rfl rfl hl.1 (lv_room (Nat.le_of_ble_eq_true rfl)) dX5_move_9 rfl (fun H locs hW => ?_) ⟨Nat.zero_le _, Nat.zero_le _⟩
    refine zb_eq (tgt := 28) hx hb (¬ badT n y) rfl dX5_move_12 (by decide) (fun h12 => ?_) (fun h12 => ?_)
    · refine lv_iconst (v := (-1)) hx hb dX5_move_28 (by decide) ?_
      have qr : ((-1) : Int32) = -1 := by simp [bI, h4, h12, cF_sF, cN_sN, cB_sB, cM_sM, cN_sF, cB_sF, cM_sF, cF_sN, cB_sN, cM_sN, cF_sB, cN_sB, cM_sB, cF_sM, cN_sM, cB_sM, mF_smF, mA_smF, mF_smA, mA_smA]
      exact hE hW qr dX5_move_29
    · exact absurd hby h12

set_option maxHeartbeats 4000000 in
set_option maxRecDepth 100000 in
theorem m_mov_c (l : Launch) (G : GG) (C : CS) (M : MS) {n : Nat} (hle : n ≤ 12) (hn : mF M 0 = nI n) {x z : Int32} (hnm : nameP x) {t : Nat} (ht : t < n) (hbz : badT n z) : Ct l G yX5_move cX5_move 9 (some .int) 3 67 [.ref (zad G 12 0), .int x, .int (nI t), .int z] C M (some (.int (-1))) C M := by
  refine Ct_i (by decide) (Nat.le_of_ble_eq_true rfl) (fun {p e s m args below meth c A Q ls} hC hW hl hE => ?_)
  have hx := hC.1
  have hb := hC.2.1
  have hl : lv_has ls 9 [(0, .ref (zad G 12 0)), (1, .int x), (2, .int (nI t)), (3, .int z)] := hl
  refine lv_iload_n hx hb dX5_move_0 rfl (lv_at hl 1 rfl) ?_
  refine z_callS (rest := []) (st1 := [.int (bI (nameP x))]) hC hW (c_X5_isName l G C M x) mw_X5_isName mT_X5_isName mM_X5_113 ⟨Nat.le_of_ble_eq_true rfl, Nat.le_of_ble_eq_true rfl⟩ rfl rfl hl.1 (lv_room (Nat.le_of_ble_eq_true rfl)) dX5_move_1 rfl (fun H locs hW => ?_) ⟨Nat.zero_le _, Nat.zero_le _⟩
  refine zb_eq (tgt := 28) hx hb (nameP x) rfl dX5_move_4 (by decide) (fun h4 => ?_) (fun h4 => ?_)
  · exact absurd hnm h4
  · refine lv_aload_n hx hb dX5_move_7 rfl (lv_at hl 0 rfl) ?_
    refine lv_iload_n hx hb dX5_move_8 rfl (lv_at hl 2 rfl) ?_
    refine z_callV (As := [.int (nI t)]) (rest := []) (st1 := [.int (bI (¬ badT n (nI t)))]) hC hW LL_12 rfl rfl rfl (c_X5_isTape l G C M hle hn (nI t)) mw_X5_isTape mv_X5_isTape mM_X5_129 ⟨Nat.le_of_ble_eq_true rfl, Nat.le_of_ble_eq_true rfl⟩ rfl rfl hl.1 (lv_room (Nat.le_of_ble_eq_true rfl)) dX5_move_9 rfl (fun H locs hW => ?_) ⟨Nat.zero_le _, Nat.zero_le _⟩
    refine zb_eq (tgt := 28) hx hb (¬ badT n (nI t)) rfl dX5_move_12 (by decide) (fun h12 => ?_) (fun h12 => ?_)
    · exact absurd (not_bad hle ht) h12
    · refine lv_aload_n hx hb dX5_move_15 rfl (lv_at hl 0 rfl) ?_
      refine lv_iload_n hx hb dX5_move_16 rfl (lv_at hl 3 rfl) ?_
      refine z_callV (As := [.int z]) (rest := []) (st1 := [.int (bI (¬ badT n z))]) hC hW LL_12 rfl rfl rfl (c_X5_isTape l G C M hle hn z) mw_X5_isTape mv_X5_isTape mM_X5_129 ⟨Nat.le_of_ble_eq_true rfl, Nat.le_of_ble_eq_true rfl⟩ rfl rfl hl.1 (lv_room (Nat.le_of_ble_eq_true rfl)) dX5_move_17 rfl (fun H locs hW => ?_) ⟨Nat.zero_le _, Nat.zero_le _⟩
      refine zb_eq (tgt := 28) hx hb (¬ badT n z) rfl dX5_move_20 (by decide) (fun h20 => ?_) (fun h20 => ?_)
      · refine lv_iconst (v := (-1)) hx hb dX5_move_28 (by decide) ?_
        have qr : ((-1) : Int32) = -1 := by simp [bI, h4, h12, h20, cF_sF, cN_sN, cB_sB, cM_sM, cN_sF, cB_sF, cM_sF, cF_sN, cB_sN, cM_sN, cF_sB, cN_sB, cM_sB, cF_sM, cN_sM, cB_sM, mF_smF, mA_smF, mF_smA, mA_smA]
        exact hE hW qr dX5_move_29
      · exact absurd hbz h20

set_option maxHeartbeats 4000000 in
set_option maxRecDepth 100000 in
theorem m_mov_s (l : Launch) (G : GG) (C : CS) (M : MS) {n : Nat} (hle : n ≤ 12) (hn : mF M 0 = nI n) {t1 t2 : Nat} (ht1 : t1 < n) (ht2 : t2 < n) {nm : Nat} (hnm3 : nm < 1000) (hnm : nameP (nI nm)) (hs : t1 = t2) : Ct l G yX5_move cX5_move 9 (some .int) 3 67 [.ref (zad G 12 0), .int (nI nm), .int (nI t1), .int (nI t2)] C M (some (.int (-1))) C M := by
  refine Ct_i (by decide) (Nat.le_of_ble_eq_true rfl) (fun {p e s m args below meth c A Q ls} hC hW hl hE => ?_)
  have hx := hC.1
  have hb := hC.2.1
  have hl : lv_has ls 9 [(0, .ref (zad G 12 0)), (1, .int (nI nm)), (2, .int (nI t1)), (3, .int (nI t2))] := hl
  refine lv_iload_n hx hb dX5_move_0 rfl (lv_at hl 1 rfl) ?_
  refine z_callS (rest := []) (st1 := [.int (bI (nameP (nI nm)))]) hC hW (c_X5_isName l G C M (nI nm)) mw_X5_isName mT_X5_isName mM_X5_113 ⟨Nat.le_of_ble_eq_true rfl, Nat.le_of_ble_eq_true rfl⟩ rfl rfl hl.1 (lv_room (Nat.le_of_ble_eq_true rfl)) dX5_move_1 rfl (fun H locs hW => ?_) ⟨Nat.zero_le _, Nat.zero_le _⟩
  refine zb_eq (tgt := 28) hx hb (nameP (nI nm)) rfl dX5_move_4 (by decide) (fun h4 => ?_) (fun h4 => ?_)
  · exact absurd hnm h4
  · refine lv_aload_n hx hb dX5_move_7 rfl (lv_at hl 0 rfl) ?_
    refine lv_iload_n hx hb dX5_move_8 rfl (lv_at hl 2 rfl) ?_
    refine z_callV (As := [.int (nI t1)]) (rest := []) (st1 := [.int (bI (¬ badT n (nI t1)))]) hC hW LL_12 rfl rfl rfl (c_X5_isTape l G C M hle hn (nI t1)) mw_X5_isTape mv_X5_isTape mM_X5_129 ⟨Nat.le_of_ble_eq_true rfl, Nat.le_of_ble_eq_true rfl⟩ rfl rfl hl.1 (lv_room (Nat.le_of_ble_eq_true rfl)) dX5_move_9 rfl (fun H locs hW => ?_) ⟨Nat.zero_le _, Nat.zero_le _⟩
    refine zb_eq (tgt := 28) hx hb (¬ badT n (nI t1)) rfl dX5_move_12 (by decide) (fun h12 => ?_) (fun h12 => ?_)
    · exact absurd (not_bad hle ht1) h12
    · refine lv_aload_n hx hb dX5_move_15 rfl (lv_at hl 0 rfl) ?_
      refine lv_iload_n hx hb dX5_move_16 rfl (lv_at hl 3 rfl) ?_
      refine z_callV (As := [.int (nI t2)]) (rest := []) (st1 := [.int (bI (¬ badT n (nI t2)))]) hC hW LL_12 rfl rfl rfl (c_X5_isTape l G C M hle hn (nI t2)) mw_X5_isTape mv_X5_isTape mM_X5_129 ⟨Nat.le_of_ble_eq_true rfl, Nat.le_of_ble_eq_true rfl⟩ rfl rfl hl.1 (lv_room (Nat.le_of_ble_eq_true rfl)) dX5_move_17 rfl (fun H locs hW => ?_) ⟨Nat.zero_le _, Nat.zero_le _⟩
      refine zb_eq (tgt := 28) hx hb (¬ badT n (nI t2)) rfl dX5_move_20 (by decide) (fun h20 => ?_) (fun h20 => ?_)
      · exact absurd (not_bad hle ht2) h20
      · refine lv_iload_n hx hb dX5_move_23 rfl (lv_at hl 2 rfl) ?_
        refine lv_iload_n hx hb dX5_move_24 rfl (lv_at hl 3 rfl) ?_
        refine zc_ne (i := t1) (j := t2) (tgt := 30) hx hb rfl rfl (by omega) (by omega) dX5_move_25 (by decide) (fun h25 => ?_) (fun h25 => ?_)
        · exact absurd hs h25
        · refine lv_iconst (v := (-1)) hx hb dX5_move_28 (by decide) ?_
          have qr : ((-1) : Int32) = -1 := by simp [bI, h4, h12, h20, h25, cF_sF, cN_sN, cB_sB, cM_sM, cN_sF, cB_sF, cM_sF, cF_sN, cB_sN, cM_sN, cF_sB, cN_sB, cM_sB, cF_sM, cN_sM, cB_sM, mF_smF, mA_smF, mF_smA, mA_smA]
          exact hE hW qr dX5_move_29

set_option maxHeartbeats 4000000 in
set_option maxRecDepth 100000 in
theorem m_mov_0 (l : Launch) (G : GG) (C : CS) (M : MS) {n : Nat} (hle : n ≤ 12) (hn : mF M 0 = nI n) {t1 t2 : Nat} (ht1 : t1 < n) (ht2 : t2 < n) {nm : Nat} (hnm3 : nm < 1000) (hnm : nameP (nI nm)) (hs : t1 ≠ t2) (hk : mA M 9 (1000 * t1 + nm) = 0) : Ct l G yX5_move cX5_move 9 (some .int) 3 67 [.ref (zad G 12 0), .int (nI nm), .int (nI t1), .int (nI t2)] C M (some (.int (-2))) C M := by
  refine Ct_i (by decide) (Nat.le_of_ble_eq_true rfl) (fun {p e s m args below meth c A Q ls} hC hW hl hE => ?_)
  have hx := hC.1
  have hb := hC.2.1
  have hl : lv_has ls 9 [(0, .ref (zad G 12 0)), (1, .int (nI nm)), (2, .int (nI t1)), (3, .int (nI t2))] := hl
  refine lv_iload_n hx hb dX5_move_0 rfl (lv_at hl 1 rfl) ?_
  refine z_callS (rest := []) (st1 := [.int (bI (nameP (nI nm)))]) hC hW (c_X5_isName l G C M (nI nm)) mw_X5_isName mT_X5_isName mM_X5_113 ⟨Nat.le_of_ble_eq_true rfl, Nat.le_of_ble_eq_true rfl⟩ rfl rfl hl.1 (lv_room (Nat.le_of_ble_eq_true rfl)) dX5_move_1 rfl (fun H locs hW => ?_) ⟨Nat.zero_le _, Nat.zero_le _⟩
  refine zb_eq (tgt := 28) hx hb (nameP (nI nm)) rfl dX5_move_4 (by decide) (fun h4 => ?_) (fun h4 => ?_)
  · exact absurd hnm h4
  · refine lv_aload_n hx hb dX5_move_7 rfl (lv_at hl 0 rfl) ?_
    refine lv_iload_n hx hb dX5_move_8 rfl (lv_at hl 2 rfl) ?_
    refine z_callV (As := [.int (nI t1)]) (rest := []) (st1 := [.int (bI (¬ badT n (nI t1)))]) hC hW LL_12 rfl rfl rfl (c_X5_isTape l G C M hle hn (nI t1)) mw_X5_isTape mv_X5_isTape mM_X5_129 ⟨Nat.le_of_ble_eq_true rfl, Nat.le_of_ble_eq_true rfl⟩ rfl rfl hl.1 (lv_room (Nat.le_of_ble_eq_true rfl)) dX5_move_9 rfl (fun H locs hW => ?_) ⟨Nat.zero_le _, Nat.zero_le _⟩
    refine zb_eq (tgt := 28) hx hb (¬ badT n (nI t1)) rfl dX5_move_12 (by decide) (fun h12 => ?_) (fun h12 => ?_)
    · exact absurd (not_bad hle ht1) h12
    · refine lv_aload_n hx hb dX5_move_15 rfl (lv_at hl 0 rfl) ?_
      refine lv_iload_n hx hb dX5_move_16 rfl (lv_at hl 3 rfl) ?_
      refine z_callV (As := [.int (nI t2)]) (rest := []) (st1 := [.int (bI (¬ badT n (nI t2)))]) hC hW LL_12 rfl rfl rfl (c_X5_isTape l G C M hle hn (nI t2)) mw_X5_isTape mv_X5_isTape mM_X5_129 ⟨Nat.le_of_ble_eq_true rfl, Nat.le_of_ble_eq_true rfl⟩ rfl rfl hl.1 (lv_room (Nat.le_of_ble_eq_true rfl)) dX5_move_17 rfl (fun H locs hW => ?_) ⟨Nat.zero_le _, Nat.zero_le _⟩
      refine zb_eq (tgt := 28) hx hb (¬ badT n (nI t2)) rfl dX5_move_20 (by decide) (fun h20 => ?_) (fun h20 => ?_)
      · exact absurd (not_bad hle ht2) h20
      · refine lv_iload_n hx hb dX5_move_23 rfl (lv_at hl 2 rfl) ?_
        refine lv_iload_n hx hb dX5_move_24 rfl (lv_at hl 3 rfl) ?_
        refine zc_ne (i := t1) (j := t2) (tgt := 30) hx hb rfl rfl (by omega) (by omega) dX5_move_25 (by decide) (fun h25 => ?_) (fun h25 => ?_)
        · refine lv_aload_n hx hb dX5_move_30 rfl (lv_at hl 0 rfl) ?_
          refine g12 (k := 9) (v := .ref (zad G 13 9)) hC hW (by decide) mF_X5_35 rfl dX5_move_31 ?_
          refine lv_sipush (v := 1000) hx hb dX5_move_34 (by decide) ?_
          refine lv_iload_n hx hb dX5_move_37 rfl (lv_at hl 2 rfl) ?_
          refine zi_mul (i := 1000) (j := t1) hx hb rfl rfl dX5_move_38 ?_
          refine lv_iload_n hx hb dX5_move_39 rfl (lv_at hl 1 rfl) ?_
          refine zi_add (i := 1000 * t1) (j := nm) hx hb rfl rfl dX5_move_40 ?_
          refine am (i := 1000 * t1 + nm) (n := 12000) hC hW (by decide) rfl rfl (rfl) (by omega) dX5_move_41 ?_
          refine lv_if_ne (tgt := 48) hx hb dX5_move_42 (by decide) (fun h42 => ?_) (fun h42 => ?_)
          · exact absurd hk h42
          · refine lv_bipush (v := (-2)) hx hb dX5_move_45 (by decide) ?_
            have qr : ((-2) : Int32) = -2 := by simp [bI, h4, h12, h20, h25, h42, cF_sF, cN_sN, cB_sB, cM_sM, cN_sF, cB_sF, cM_sF, cF_sN, cB_sN, cM_sN, cF_sB, cN_sB, cM_sB, cF_sM, cN_sM, cB_sM, mF_smF, mA_smF, mF_smA, mA_smA]
            exact hE hW qr dX5_move_47
        · exact absurd h25 hs

set_option maxHeartbeats 4000000 in
set_option maxRecDepth 100000 in
theorem m_mov_d (l : Launch) (G : GG) (C : CS) (M : MS) {n : Nat} (hle : n ≤ 12) (hn : mF M 0 = nI n) {t1 t2 : Nat} (ht1 : t1 < n) (ht2 : t2 < n) {nm : Nat} (hnm3 : nm < 1000) (hnm : nameP (nI nm)) (hs : t1 ≠ t2) {pp z e0 : Nat} (hk : mA M 9 (1000 * t1 + nm) = nI (pp + 1)) (hz : mA M 7 (100 * t1 + pp) = nI z) (hpz : pp + z + 2 ≤ 100) (he : mA M 2 t2 = nI e0) (he1 : e0 ≤ 100) {X Y F : MS} (hm0 : Ct l G yX5_mount cX5_mount 5 none 1 22 [.ref (zad G 12 0), .int (nI 0), .int (nI t1)] C (mbeg M) none C X) (hm1 : Ct l G yX5_mount cX5_mount 5 none 1 22 [.ref (zad G 12 0), .int (nI 1), .int (nI t2)] C X none C Y) (hw : mF Y 30 ≠ 0) (h15 : mA Y 15 1 = -1) (h18 : mA Y 18 1 = 0) (hun : Ue Y F) : Ct l G yX5_move cX5_move 9 (some .int) 3 67 [.ref (zad G 12 0), .int (nI nm), .int (nI t1), .int (nI t2)] C M (some (.int (menR F (nI e0)))) C (menE F) := by
  refine Ct_i (by decide) (Nat.le_of_ble_eq_true rfl) (fun {p e s m args below meth c A Q ls} hC hW hl hE => ?_)
  have hx := hC.1
  have hb := hC.2.1
  have hl : lv_has ls 9 [(0, .ref (zad G 12 0)), (1, .int (nI nm)), (2, .int (nI t1)), (3, .int (nI t2))] := hl
  refine lv_iload_n hx hb dX5_move_0 rfl (lv_at hl 1 rfl) ?_
  refine z_callS (rest := []) (st1 := [.int (bI (nameP (nI nm)))]) hC hW (c_X5_isName l G C M (nI nm)) mw_X5_isName mT_X5_isName mM_X5_113 ⟨Nat.le_of_ble_eq_true rfl, Nat.le_of_ble_eq_true rfl⟩ rfl rfl hl.1 (lv_room (Nat.le_of_ble_eq_true rfl)) dX5_move_1 rfl (fun H locs hW => ?_) ⟨Nat.zero_le _, Nat.zero_le _⟩
  refine zb_eq (tgt := 28) hx hb (nameP (nI nm)) rfl dX5_move_4 (by decide) (fun h4 => ?_) (fun h4 => ?_)
  · exact absurd hnm h4
  · refine lv_aload_n hx hb dX5_move_7 rfl (lv_at hl 0 rfl) ?_
    refine lv_iload_n hx hb dX5_move_8 rfl (lv_at hl 2 rfl) ?_
    refine z_callV (As := [.int (nI t1)]) (rest := []) (st1 := [.int (bI (¬ badT n (nI t1)))]) hC hW LL_12 rfl rfl rfl (c_X5_isTape l G C M hle hn (nI t1)) mw_X5_isTape mv_X5_isTape mM_X5_129 ⟨Nat.le_of_ble_eq_true rfl, Nat.le_of_ble_eq_true rfl⟩ rfl rfl hl.1 (lv_room (Nat.le_of_ble_eq_true rfl)) dX5_move_9 rfl (fun H locs hW => ?_) ⟨Nat.zero_le _, Nat.zero_le _⟩
    refine zb_eq (tgt := 28) hx hb (¬ badT n (nI t1)) rfl dX5_move_12 (by decide) (fun h12 => ?_) (fun h12 => ?_)
    · exact absurd (not_bad hle ht1) h12
    · refine lv_aload_n hx hb dX5_move_15 rfl (lv_at hl 0 rfl) ?_
      refine lv_iload_n hx hb dX5_move_16 rfl (lv_at hl 3 rfl) ?_
      refine z_callV (As := [.int (nI t2)]) (rest := []) (st1 := [.int (bI (¬ badT n (nI t2)))]) hC hW LL_12 rfl rfl rfl (c_X5_isTape l G C M hle hn (nI t2)) mw_X5_isTape mv_X5_isTape mM_X5_129 ⟨Nat.le_of_ble_eq_true rfl, Nat.le_of_ble_eq_true rfl⟩ rfl rfl hl.1 (lv_room (Nat.le_of_ble_eq_true rfl)) dX5_move_17 rfl (fun H locs hW => ?_) ⟨Nat.zero_le _, Nat.zero_le _⟩
      refine zb_eq (tgt := 28) hx hb (¬ badT n (nI t2)) rfl dX5_move_20 (by decide) (fun h20 => ?_) (fun h20 => ?_)
      · exact absurd (not_bad hle ht2) h20
      · refine lv_iload_n hx hb dX5_move_23 rfl (lv_at hl 2 rfl) ?_
        refine lv_iload_n hx hb dX5_move_24 rfl (lv_at hl 3 rfl) ?_
        refine zc_ne (i := t1) (j := t2) (tgt := 30) hx hb rfl rfl (by omega) (by omega) dX5_move_25 (by decide) (fun h25 => ?_) (fun h25 => ?_)
        · refine lv_aload_n hx hb dX5_move_30 rfl (lv_at hl 0 rfl) ?_
          refine g12 (k := 9) (v := .ref (zad G 13 9)) hC hW (by decide) mF_X5_35 rfl dX5_move_31 ?_
          refine lv_sipush (v := 1000) hx hb dX5_move_34 (by decide) ?_
          refine lv_iload_n hx hb dX5_move_37 rfl (lv_at hl 2 rfl) ?_
          refine zi_mul (i := 1000) (j := t1) hx hb rfl rfl dX5_move_38 ?_
          refine lv_iload_n hx hb dX5_move_39 rfl (lv_at hl 1 rfl) ?_
          refine zi_add (i := 1000 * t1) (j := nm) hx hb rfl rfl dX5_move_40 ?_
          refine am (i := 1000 * t1 + nm) (n := 12000) hC hW (by decide) rfl rfl (rfl) (by omega) dX5_move_41 ?_
          refine lv_if_ne (tgt := 48) hx hb dX5_move_42 (by decide) (fun h42 => ?_) (fun h42 => ?_)
          · refine lv_aload_n hx hb dX5_move_48 rfl (lv_at hl 0 rfl) ?_
            refine z_callV (As := []) (rest := []) (st1 := []) hC hW LL_12 rfl rfl rfl (c_X5_begin l G C M) mw_X5_begin mv_X5_begin mM_X5_132 ⟨Nat.le_of_ble_eq_true rfl, Nat.le_of_ble_eq_true rfl⟩ rfl rfl hl.1 (lv_room (Nat.le_of_ble_eq_true rfl)) dX5_move_49 rfl (fun H locs hW => ?_) ⟨Nat.zero_le _, Nat.zero_le _⟩
            obtain ⟨M1, eM1⟩ : ∃ z_, z_ = mbeg M := ⟨_, rfl⟩
            rw [← eM1] at hW
            refine lv_aload_n hx hb dX5_move_52 rfl (lv_at hl 0 rfl) ?_
            refine g12 (k := 9) (v := .ref (zad G 13 9)) hC hW (by decide) mF_X5_35 rfl dX5_move_53 ?_
            refine lv_sipush (v := 1000) hx hb dX5_move_56 (by decide) ?_
            refine lv_iload_n hx hb dX5_move_59 rfl (lv_at hl 2 rfl) ?_
            refine zi_mul (i := 1000) (j := t1) hx hb rfl rfl dX5_move_60 ?_
            refine lv_iload_n hx hb dX5_move_61 rfl (lv_at hl 1 rfl) ?_
            refine zi_add (i := 1000 * t1) (j := nm) hx hb rfl rfl dX5_move_62 ?_
            refine am (i := 1000 * t1 + nm) (n := 12000) hC hW (by decide) rfl rfl (rfl) (by omega) dX5_move_63 ?_
            refine z_top (y := nI (pp + 1)) (by rw [eM1]; exact hk) ?_
            refine lv_iconst (v := 1) hx hb dX5_move_64 (by decide) ?_
            refine zi_sub (i := pp + 1) (j := 1) hx hb rfl rfl (by omega) dX5_move_65 ?_
            refine z_top (y := nI pp) (by rw [show pp + 1 - 1 = pp by omega]) ?_
            refine lv_istore (lv' := [(4, .int (nI pp)), (0, .ref (zad G 12 0)), (1, .int (nI nm)), (2, .int (nI t1)), (3, .int (nI t2))]) hx hb dX5_move_66 hl (by decide) rfl (fun ls hl => ?_)
            refine lv_aload_n hx hb dX5_move_68 rfl (lv_at hl 1 rfl) ?_
            refine g12 (k := 7) (v := .ref (zad G 13 7)) hC hW (by decide) mF_X5_28 rfl dX5_move_69 ?_
            refine lv_bipush (v := 100) hx hb dX5_move_72 (by decide) ?_
            refine lv_iload_n hx hb dX5_move_74 rfl (lv_at hl 3 rfl) ?_
            refine zi_mul (i := 100) (j := t1) hx hb rfl rfl dX5_move_75 ?_
            refine lv_iload hx hb dX5_move_76 (lv_at hl 0 rfl) ?_
            refine zi_add (i := 100 * t1) (j := pp) hx hb rfl rfl dX5_move_78 ?_
            refine am (i := 100 * t1 + pp) (n := 1200) hC hW (by decide) rfl rfl (rfl) (by omega) dX5_move_79 ?_
            refine z_top (y := nI z) (by rw [eM1]; exact hz) ?_
            refine lv_istore (lv' := [(5, .int (nI z)), (4, .int (nI pp)), (0, .ref (zad G 12 0)), (1, .int (nI nm)), (2, .int (nI t1)), (3, .int (nI t2))]) hx hb dX5_move_80 hl (by decide) rfl (fun ls hl => ?_)
            refine lv_aload_n hx hb dX5_move_82 rfl (lv_at hl 2 rfl) ?_
            refine g12 (k := 2) (v := .ref (zad G 13 2)) hC hW (by decide) mF_X5_13 rfl dX5_move_83 ?_
            refine lv_iload_n hx hb dX5_move_86 rfl (lv_at hl 5 rfl) ?_
            refine am (i := t2) (n := 12) hC hW (by decide) rfl rfl (rfl) (by omega) dX5_move_87 ?_
            refine z_top (y := nI e0) (by rw [eM1]; exact he) ?_
            refine lv_istore (lv' := [(6, .int (nI e0)), (5, .int (nI z)), (4, .int (nI pp)), (0, .ref (zad G 12 0)), (1, .int (nI nm)), (2, .int (nI t1)), (3, .int (nI t2))]) hx hb dX5_move_88 hl (by decide) rfl (fun ls hl => ?_)
            refine lv_aload_n hx hb dX5_move_90 rfl (lv_at hl 3 rfl) ?_
            refine lv_iconst (v := 0) hx hb dX5_move_91 (by decide) ?_
            refine lv_iload_n hx hb dX5_move_92 rfl (lv_at hl 5 rfl) ?_
            refine z_callV (As := [.int 0, .int (nI t1)]) (rest := []) (st1 := []) hC hW LL_12 rfl rfl rfl (by rw [eM1]; exact hm0) mw_X5_mount mv_X5_mount mM_X5_135 ⟨Nat.le_of_ble_eq_true rfl, Nat.le_of_ble_eq_true rfl⟩ rfl rfl hl.1 (lv_room (Nat.le_of_ble_eq_true rfl)) dX5_move_93 rfl (fun H locs hW => ?_) ⟨Nat.zero_le _, Nat.zero_le _⟩
            obtain ⟨M2, eM2⟩ : ∃ z_, z_ = X := ⟨_, rfl⟩
            rw [← eM2] at hW
            refine lv_aload_n hx hb dX5_move_96 rfl (lv_at hl 3 rfl) ?_
            refine lv_iconst (v := 1) hx hb dX5_move_97 (by decide) ?_
            refine lv_iload_n hx hb dX5_move_98 rfl (lv_at hl 6 rfl) ?_
            refine z_callV (As := [.int 1, .int (nI t2)]) (rest := []) (st1 := []) hC hW LL_12 rfl rfl rfl (by rw [eM2]; exact hm1) mw_X5_mount mv_X5_mount mM_X5_135 ⟨Nat.le_of_ble_eq_true rfl, Nat.le_of_ble_eq_true rfl⟩ rfl rfl hl.1 (lv_room (Nat.le_of_ble_eq_true rfl)) dX5_move_99 rfl (fun H locs hW => ?_) ⟨Nat.zero_le _, Nat.zero_le _⟩
            obtain ⟨M3, eM3⟩ : ∃ z_, z_ = Y := ⟨_, rfl⟩
            rw [← eM3] at hW
            have hw2 : mF M3 30 ≠ 0 := by rw [eM3]; exact hw
            refine lv_aload_n hx hb dX5_move_102 rfl (lv_at hl 3 rfl) ?_
            refine lv_iconst (v := 0) hx hb dX5_move_103 (by decide) ?_
            refine lv_iload hx hb dX5_move_104 (lv_at hl 2 rfl) ?_
            refine z_callV (As := [.int 0, .int (nI pp)]) (rest := []) (st1 := []) hC hW LL_12 rfl rfl rfl (c_X5_wind_f l G C M3 (mm := 0) (by decide) hw2 (nI pp)) mw_X5_wind mv_X5_wind mM_X5_139 ⟨Nat.le_of_ble_eq_true rfl, Nat.le_of_ble_eq_true rfl⟩ rfl rfl hl.1 (lv_room (Nat.le_of_ble_eq_true rfl)) dX5_move_106 rfl (fun H locs hW => ?_) ⟨Nat.zero_le _, Nat.zero_le _⟩
            refine lv_aload_n hx hb dX5_move_109 rfl (lv_at hl 3 rfl) ?_
            refine lv_iconst (v := 1) hx hb dX5_move_110 (by decide) ?_
            refine lv_iload hx hb dX5_move_111 (lv_at hl 0 rfl) ?_
            refine z_callV (As := [.int 1, .int (nI e0)]) (rest := []) (st1 := []) hC hW LL_12 rfl rfl rfl (c_X5_wind_f l G C M3 (mm := 1) (by decide) hw2 (nI e0)) mw_X5_wind mv_X5_wind mM_X5_139 ⟨Nat.le_of_ble_eq_true rfl, Nat.le_of_ble_eq_true rfl⟩ rfl rfl hl.1 (lv_room (Nat.le_of_ble_eq_true rfl)) dX5_move_113 rfl (fun H locs hW => ?_) ⟨Nat.zero_le _, Nat.zero_le _⟩
            refine lv_iconst (v := 0) hx hb dX5_move_116 (by decide) ?_
            refine lv_istore (lv' := [(7, .int 0), (6, .int (nI e0)), (5, .int (nI z)), (4, .int (nI pp)), (0, .ref (zad G 12 0)), (1, .int (nI nm)), (2, .int (nI t1)), (3, .int (nI t2))]) hx hb dX5_move_117 hl (by decide) rfl (fun ls hl => ?_)
            refine lv_iload hx hb dX5_move_119 (lv_at hl 0 rfl) ?_
            refine lv_iload hx hb dX5_move_121 (lv_at hl 2 rfl) ?_
            refine lv_iconst (v := 2) hx hb dX5_move_123 (by decide) ?_
            refine zi_add (i := z) (j := 2) hx hb rfl rfl dX5_move_124 ?_
            refine zc_ge (i := 0) (j := z + 2) (tgt := 174) hx hb rfl rfl (by omega) (by omega) dX5_move_125 (by decide) (fun h125 => ?_) (fun h125 => ?_)
            · exact absurd h125 (by omega)
            · refine lv_aload_n hx hb dX5_move_128 rfl (lv_at hl 4 rfl) ?_
              refine g12 (k := 30) (v := .int (mF M3 30)) hC hW (by decide) mF_X5_82 rfl dX5_move_129 ?_
              refine lv_if_ne (tgt := 174) hx hb dX5_move_132 (by decide) (fun h132 => ?_) (fun h132 => ?_)
              · refine lv_aload_n hx hb dX5_move_174 rfl (lv_at hl 4 rfl) ?_
                refine g12 (k := 30) (v := .int (mF M3 30)) hC hW (by decide) mF_X5_82 rfl dX5_move_175 ?_
                refine lv_if_ne (tgt := 210) hx hb dX5_move_178 (by decide) (fun h178 => ?_) (fun h178 => ?_)
                · refine lv_aload_n hx hb dX5_move_210 rfl (lv_at hl 4 rfl) ?_
                  refine lv_iconst (v := 1) hx hb dX5_move_211 (by decide) ?_
                  refine lv_iload hx hb dX5_move_212 (lv_at hl 1 rfl) ?_
                  refine z_callV (As := [.int 1, .int (nI e0)]) (rest := []) (st1 := []) hC hW LL_12 rfl rfl rfl (c_X5_close_n l G C M3 (mm := 1) (by decide) (by rw [eM3]; exact h18) (nI e0)) mw_X5_close mv_X5_close mM_X5_146 ⟨Nat.le_of_ble_eq_true rfl, Nat.le_of_ble_eq_true rfl⟩ rfl rfl hl.1 (lv_room (Nat.le_of_ble_eq_true rfl)) dX5_move_214 rfl (fun H locs hW => ?_) ⟨Nat.zero_le _, Nat.zero_le _⟩
                  refine lv_aload_n hx hb dX5_move_217 rfl (lv_at hl 4 rfl) ?_
                  refine lv_iconst (v := 1) hx hb dX5_move_218 (by decide) ?_
                  refine z_callV (As := [.int 1]) (rest := []) (st1 := []) hC hW LL_12 rfl rfl rfl (c_X5_unmount_n l G C M3 (mm := 1) (by decide) (by rw [eM3]; exact h15)) mw_X5_unmount mv_X5_unmount mM_X5_149 ⟨Nat.le_of_ble_eq_true rfl, Nat.le_of_ble_eq_true rfl⟩ rfl rfl hl.1 (lv_room (Nat.le_of_ble_eq_true rfl)) dX5_move_219 rfl (fun H locs hW => ?_) ⟨Nat.zero_le _, Nat.zero_le _⟩
                  refine lv_aload_n hx hb dX5_move_222 rfl (lv_at hl 4 rfl) ?_
                  refine lv_iconst (v := 0) hx hb dX5_move_223 (by decide) ?_
                  refine z_callV (As := [.int 0]) (rest := []) (st1 := []) hC hW LL_12 rfl rfl rfl (c_unmount_e l G C (M := M3) (F := F) (by rw [eM3]; exact hun)) mw_X5_unmount mv_X5_unmount mM_X5_149 ⟨Nat.le_of_ble_eq_true rfl, Nat.le_of_ble_eq_true rfl⟩ rfl rfl hl.1 (lv_room (Nat.le_of_ble_eq_true rfl)) dX5_move_224 rfl (fun H locs hW => ?_) ⟨Nat.zero_le _, Nat.zero_le _⟩
                  obtain ⟨M4, eM4⟩ : ∃ z_, z_ = F := ⟨_, rfl⟩
                  rw [← eM4] at hW
                  refine lv_aload_n hx hb dX5_move_227 rfl (lv_at hl 4 rfl) ?_
                  refine lv_iload hx hb dX5_move_228 (lv_at hl 1 rfl) ?_
                  refine z_callV (As := [.int (nI e0)]) (rest := []) (st1 := [.int (menR M4 (nI e0))]) hC hW LL_12 rfl rfl rfl (c_X5_ended l G C M4 (nI e0)) mw_X5_ended mv_X5_ended mM_X5_153 ⟨Nat.le_of_ble_eq_true rfl, Nat.le_of_ble_eq_true rfl⟩ rfl rfl hl.1 (lv_room (Nat.le_of_ble_eq_true rfl)) dX5_move_230 rfl (fun H locs hW => ?_) ⟨Nat.zero_le _, Nat.zero_le _⟩
                  obtain ⟨M5, eM5⟩ : ∃ z_, z_ = menE M4 := ⟨_, rfl⟩
                  rw [← eM5] at hW
                  rw [eM5, eM4] at hW
                  exact hE hW (by rw [eM4]) dX5_move_233
                · exact absurd h178 hw2
              · exact absurd h132 hw2
          · exact absurd h42 (by rw [hk]; exact nI_ne0 (by omega) (by omega))
        · exact absurd h25 hs

set_option maxHeartbeats 4000000 in
set_option maxRecDepth 100000 in
theorem m_mov_a (l : Launch) (G : GG) (C : CS) (M : MS) {n : Nat} (hle : n ≤ 12) (hn : mF M 0 = nI n) {t1 t2 : Nat} (ht1 : t1 < n) (ht2 : t2 < n) {nm : Nat} (hnm3 : nm < 1000) (hnm : nameP (nI nm)) (hs : t1 ≠ t2) {pp z e0 : Nat} (hk : mA M 9 (1000 * t1 + nm) = nI (pp + 1)) (hz : mA M 7 (100 * t1 + pp) = nI z) (hpz : pp + z + 2 ≤ 100) (he : mA M 2 t2 = nI e0) (he1 : e0 ≤ 100) {X Y : MS} (hm0 : Ct l G yX5_mount cX5_mount 5 none 1 22 [.ref (zad G 12 0), .int (nI 0), .int (nI t1)] C (mbeg M) none C X) (hm1 : Ct l G yX5_mount cX5_mount 5 none 1 22 [.ref (zad G 12 0), .int (nI 1), .int (nI t2)] C X none C Y) {d1 d2 : Nat} (hJX : Jm Y 0 d1 t1 0) (hJY : Jm Y 1 d2 t2 0) (heY : mA Y 2 t2 = nI e0) : Ct l G yX5_move cX5_move 9 (some .int) 3 67 [.ref (zad G 12 0), .int (nI nm), .int (nI t1), .int (nI t2)] C M (some (.int (menR (mmvD Y d1 t1 d2 t2 nm pp z e0) (nI e0)))) C (menE (mmvD Y d1 t1 d2 t2 nm pp z e0)) := by
  refine Ct_i (by decide) (Nat.le_of_ble_eq_true rfl) (fun {p e s m args below meth c A Q ls} hC hW hl hE => ?_)
  have hx := hC.1
  have hb := hC.2.1
  have hl : lv_has ls 9 [(0, .ref (zad G 12 0)), (1, .int (nI nm)), (2, .int (nI t1)), (3, .int (nI t2))] := hl
  refine lv_iload_n hx hb dX5_move_0 rfl (lv_at hl 1 rfl) ?_
  refine z_callS (rest := []) (st1 := [.int (bI (nameP (nI nm)))]) hC hW (c_X5_isName l G C M (nI nm)) mw_X5_isName mT_X5_isName mM_X5_113 ⟨Nat.le_of_ble_eq_true rfl, Nat.le_of_ble_eq_true rfl⟩ rfl rfl hl.1 (lv_room (Nat.le_of_ble_eq_true rfl)) dX5_move_1 rfl (fun H locs hW => ?_) ⟨Nat.zero_le _, Nat.zero_le _⟩
  refine zb_eq (tgt := 28) hx hb (nameP (nI nm)) rfl dX5_move_4 (by decide) (fun h4 => ?_) (fun h4 => ?_)
  · exact absurd hnm h4
  · refine lv_aload_n hx hb dX5_move_7 rfl (lv_at hl 0 rfl) ?_
    refine lv_iload_n hx hb dX5_move_8 rfl (lv_at hl 2 rfl) ?_
    refine z_callV (As := [.int (nI t1)]) (rest := []) (st1 := [.int (bI (¬ badT n (nI t1)))]) hC hW LL_12 rfl rfl rfl (c_X5_isTape l G C M hle hn (nI t1)) mw_X5_isTape mv_X5_isTape mM_X5_129 ⟨Nat.le_of_ble_eq_true rfl, Nat.le_of_ble_eq_true rfl⟩ rfl rfl hl.1 (lv_room (Nat.le_of_ble_eq_true rfl)) dX5_move_9 rfl (fun H locs hW => ?_) ⟨Nat.zero_le _, Nat.zero_le _⟩
    refine zb_eq (tgt := 28) hx hb (¬ badT n (nI t1)) rfl dX5_move_12 (by decide) (fun h12 => ?_) (fun h12 => ?_)
    · exact absurd (not_bad hle ht1) h12
    · refine lv_aload_n hx hb dX5_move_15 rfl (lv_at hl 0 rfl) ?_
      refine lv_iload_n hx hb dX5_move_16 rfl (lv_at hl 3 rfl) ?_
      refine z_callV (As := [.int (nI t2)]) (rest := []) (st1 := [.int (bI (¬ badT n (nI t2)))]) hC hW LL_12 rfl rfl rfl (c_X5_isTape l G C M hle hn (nI t2)) mw_X5_isTape mv_X5_isTape mM_X5_129 ⟨Nat.le_of_ble_eq_true rfl, Nat.le_of_ble_eq_true rfl⟩ rfl rfl hl.1 (lv_room (Nat.le_of_ble_eq_true rfl)) dX5_move_17 rfl (fun H locs hW => ?_) ⟨Nat.zero_le _, Nat.zero_le _⟩
      refine zb_eq (tgt := 28) hx hb (¬ badT n (nI t2)) rfl dX5_move_20 (by decide) (fun h20 => ?_) (fun h20 => ?_)
      · exact absurd (not_bad hle ht2) h20
      · refine lv_iload_n hx hb dX5_move_23 rfl (lv_at hl 2 rfl) ?_
        refine lv_iload_n hx hb dX5_move_24 rfl (lv_at hl 3 rfl) ?_
        refine zc_ne (i := t1) (j := t2) (tgt := 30) hx hb rfl rfl (by omega) (by omega) dX5_move_25 (by decide) (fun h25 => ?_) (fun h25 => ?_)
        · refine lv_aload_n hx hb dX5_move_30 rfl (lv_at hl 0 rfl) ?_
          refine g12 (k := 9) (v := .ref (zad G 13 9)) hC hW (by decide) mF_X5_35 rfl dX5_move_31 ?_
          refine lv_sipush (v := 1000) hx hb dX5_move_34 (by decide) ?_
          refine lv_iload_n hx hb dX5_move_37 rfl (lv_at hl 2 rfl) ?_
          refine zi_mul (i := 1000) (j := t1) hx hb rfl rfl dX5_move_38 ?_
          refine lv_iload_n hx hb dX5_move_39 rfl (lv_at hl 1 rfl) ?_
          refine zi_add (i := 1000 * t1) (j := nm) hx hb rfl rfl dX5_move_40 ?_
          refine am (i := 1000 * t1 + nm) (n := 12000) hC hW (by decide) rfl rfl (rfl) (by omega) dX5_move_41 ?_
          refine lv_if_ne (tgt := 48) hx hb dX5_move_42 (by decide) (fun h42 => ?_) (fun h42 => ?_)
          · refine lv_aload_n hx hb dX5_move_48 rfl (lv_at hl 0 rfl) ?_
            refine z_callV (As := []) (rest := []) (st1 := []) hC hW LL_12 rfl rfl rfl (c_X5_begin l G C M) mw_X5_begin mv_X5_begin mM_X5_132 ⟨Nat.le_of_ble_eq_true rfl, Nat.le_of_ble_eq_true rfl⟩ rfl rfl hl.1 (lv_room (Nat.le_of_ble_eq_true rfl)) dX5_move_49 rfl (fun H locs hW => ?_) ⟨Nat.zero_le _, Nat.zero_le _⟩
            obtain ⟨M1, eM1⟩ : ∃ z_, z_ = mbeg M := ⟨_, rfl⟩
            rw [← eM1] at hW
            refine lv_aload_n hx hb dX5_move_52 rfl (lv_at hl 0 rfl) ?_
            refine g12 (k := 9) (v := .ref (zad G 13 9)) hC hW (by decide) mF_X5_35 rfl dX5_move_53 ?_
            refine lv_sipush (v := 1000) hx hb dX5_move_56 (by decide) ?_
            refine lv_iload_n hx hb dX5_move_59 rfl (lv_at hl 2 rfl) ?_
            refine zi_mul (i := 1000) (j := t1) hx hb rfl rfl dX5_move_60 ?_
            refine lv_iload_n hx hb dX5_move_61 rfl (lv_at hl 1 rfl) ?_
            refine zi_add (i := 1000 * t1) (j := nm) hx hb rfl rfl dX5_move_62 ?_
            refine am (i := 1000 * t1 + nm) (n := 12000) hC hW (by decide) rfl rfl (rfl) (by omega) dX5_move_63 ?_
            refine z_top (y := nI (pp + 1)) (by rw [eM1]; exact hk) ?_
            refine lv_iconst (v := 1) hx hb dX5_move_64 (by decide) ?_
            refine zi_sub (i := pp + 1) (j := 1) hx hb rfl rfl (by omega) dX5_move_65 ?_
            refine z_top (y := nI pp) (by rw [show pp + 1 - 1 = pp by omega]) ?_
            refine lv_istore (lv' := [(4, .int (nI pp)), (0, .ref (zad G 12 0)), (1, .int (nI nm)), (2, .int (nI t1)), (3, .int (nI t2))]) hx hb dX5_move_66 hl (by decide) rfl (fun ls hl => ?_)
            refine lv_aload_n hx hb dX5_move_68 rfl (lv_at hl 1 rfl) ?_
            refine g12 (k := 7) (v := .ref (zad G 13 7)) hC hW (by decide) mF_X5_28 rfl dX5_move_69 ?_
            refine lv_bipush (v := 100) hx hb dX5_move_72 (by decide) ?_
            refine lv_iload_n hx hb dX5_move_74 rfl (lv_at hl 3 rfl) ?_
            refine zi_mul (i := 100) (j := t1) hx hb rfl rfl dX5_move_75 ?_
            refine lv_iload hx hb dX5_move_76 (lv_at hl 0 rfl) ?_
            refine zi_add (i := 100 * t1) (j := pp) hx hb rfl rfl dX5_move_78 ?_
            refine am (i := 100 * t1 + pp) (n := 1200) hC hW (by decide) rfl rfl (rfl) (by omega) dX5_move_79 ?_
            refine z_top (y := nI z) (by rw [eM1]; exact hz) ?_
            refine lv_istore (lv' := [(5, .int (nI z)), (4, .int (nI pp)), (0, .ref (zad G 12 0)), (1, .int (nI nm)), (2, .int (nI t1)), (3, .int (nI t2))]) hx hb dX5_move_80 hl (by decide) rfl (fun ls hl => ?_)
            refine lv_aload_n hx hb dX5_move_82 rfl (lv_at hl 2 rfl) ?_
            refine g12 (k := 2) (v := .ref (zad G 13 2)) hC hW (by decide) mF_X5_13 rfl dX5_move_83 ?_
            refine lv_iload_n hx hb dX5_move_86 rfl (lv_at hl 5 rfl) ?_
            refine am (i := t2) (n := 12) hC hW (by decide) rfl rfl (rfl) (by omega) dX5_move_87 ?_
            refine z_top (y := nI e0) (by rw [eM1]; exact he) ?_
            refine lv_istore (lv' := [(6, .int (nI e0)), (5, .int (nI z)), (4, .int (nI pp)), (0, .ref (zad G 12 0)), (1, .int (nI nm)), (2, .int (nI t1)), (3, .int (nI t2))]) hx hb dX5_move_88 hl (by decide) rfl (fun ls hl => ?_)
            refine lv_aload_n hx hb dX5_move_90 rfl (lv_at hl 3 rfl) ?_
            refine lv_iconst (v := 0) hx hb dX5_move_91 (by decide) ?_
            refine lv_iload_n hx hb dX5_move_92 rfl (lv_at hl 5 rfl) ?_
            refine z_callV (As := [.int 0, .int (nI t1)]) (rest := []) (st1 := []) hC hW LL_12 rfl rfl rfl (by rw [eM1]; exact hm0) mw_X5_mount mv_X5_mount mM_X5_135 ⟨Nat.le_of_ble_eq_true rfl, Nat.le_of_ble_eq_true rfl⟩ rfl rfl hl.1 (lv_room (Nat.le_of_ble_eq_true rfl)) dX5_move_93 rfl (fun H locs hW => ?_) ⟨Nat.zero_le _, Nat.zero_le _⟩
            obtain ⟨M2, eM2⟩ : ∃ z_, z_ = X := ⟨_, rfl⟩
            rw [← eM2] at hW
            refine lv_aload_n hx hb dX5_move_96 rfl (lv_at hl 3 rfl) ?_
            refine lv_iconst (v := 1) hx hb dX5_move_97 (by decide) ?_
            refine lv_iload_n hx hb dX5_move_98 rfl (lv_at hl 6 rfl) ?_
            refine z_callV (As := [.int 1, .int (nI t2)]) (rest := []) (st1 := []) hC hW LL_12 rfl rfl rfl (by rw [eM2]; exact hm1) mw_X5_mount mv_X5_mount mM_X5_135 ⟨Nat.le_of_ble_eq_true rfl, Nat.le_of_ble_eq_true rfl⟩ rfl rfl hl.1 (lv_room (Nat.le_of_ble_eq_true rfl)) dX5_move_99 rfl (fun H locs hW => ?_) ⟨Nat.zero_le _, Nat.zero_le _⟩
            obtain ⟨M3, eM3⟩ : ∃ z_, z_ = Y := ⟨_, rfl⟩
            rw [← eM3] at hW
            have hJ0 : Jm M3 0 d1 t1 0 := by rw [eM3]; exact hJX
            have hJ1 : Jm M3 1 d2 t2 0 := by rw [eM3]; exact hJY
            have he3 : mA M3 2 t2 = nI e0 := by rw [eM3]; exact heY
            refine lv_aload_n hx hb dX5_move_102 rfl (lv_at hl 3 rfl) ?_
            refine lv_iconst (v := 0) hx hb dX5_move_103 (by decide) ?_
            refine lv_iload hx hb dX5_move_104 (lv_at hl 2 rfl) ?_
            refine z_callV (As := [.int 0, .int (nI pp)]) (rest := []) (st1 := []) hC hW LL_12 rfl rfl rfl (c_wind l G C M3 (mm := 0) (by decide) hJ0 (pp := pp) (Nat.zero_le _) (by omega)) mw_X5_wind mv_X5_wind mM_X5_139 ⟨Nat.le_of_ble_eq_true rfl, Nat.le_of_ble_eq_true rfl⟩ rfl rfl hl.1 (lv_room (Nat.le_of_ble_eq_true rfl)) dX5_move_106 rfl (fun H locs hW => ?_) ⟨Nat.zero_le _, Nat.zero_le _⟩
            obtain ⟨M4, eM4⟩ : ∃ z_, z_ = mwin M3 0 0 pp := ⟨_, rfl⟩
            rw [← eM4] at hW
            have hJ0a : Jm M4 0 d1 t1 pp := by rw [eM4]; exact J_mwin (Nat.zero_le _) (by omega) hJ0
            have hJ1a : Jm M4 1 d2 t2 0 := by rw [eM4]; exact (Kp_mwin (by decide)).J hJ1
            refine lv_aload_n hx hb dX5_move_109 rfl (lv_at hl 3 rfl) ?_
            refine lv_iconst (v := 1) hx hb dX5_move_110 (by decide) ?_
            refine lv_iload hx hb dX5_move_111 (lv_at hl 0 rfl) ?_
            refine z_callV (As := [.int 1, .int (nI e0)]) (rest := []) (st1 := []) hC hW LL_12 rfl rfl rfl (c_wind l G C M4 (mm := 1) (by decide) hJ1a (pp := e0) (Nat.zero_le _) he1) mw_X5_wind mv_X5_wind mM_X5_139 ⟨Nat.le_of_ble_eq_true rfl, Nat.le_of_ble_eq_true rfl⟩ rfl rfl hl.1 (lv_room (Nat.le_of_ble_eq_true rfl)) dX5_move_113 rfl (fun H locs hW => ?_) ⟨Nat.zero_le _, Nat.zero_le _⟩
            obtain ⟨M5, eM5⟩ : ∃ z_, z_ = mwin M4 1 0 e0 := ⟨_, rfl⟩
            rw [← eM5] at hW
            have hJ0b : Jm M5 0 d1 t1 pp := by rw [eM5]; exact (Kp_mwin (by decide)).J hJ0a
            have hJ1b : Jm M5 1 d2 t2 e0 := by rw [eM5]; exact J_mwin (Nat.zero_le _) he1 hJ1a
            have he5 : mA M5 2 t2 = nI e0 := by rw [eM5, mwin_A (by decide), eM4, mwin_A (by decide)]; exact he3
            have hE5 : En M5 t2 e0 := ⟨nat_of he5 (by omega), by rw [mN_of he5 (by omega)]; exact he1, fun _ => mN_of he5 (by omega)⟩
            have hX5 : mmvL d1 t1 d2 t2 (z + 2) pp e0 M5 = mmvX Y d1 t1 d2 t2 pp z e0 := by unfold mmvX mmvW; rw [eM5, eM4, eM3]
            have J : ∀ (q1 : Nat) (q2 : Nat) (Mx : MS), Jm Mx 0 d1 t1 q1 → Jm Mx 1 d2 t2 q2 → En Mx t2 q2 → mmvX Y d1 t1 d2 t2 pp z e0 = Mx → ∀ (H : Heap) (locs : List Loc) (ls : Array Slot), Wd G s A s.heap H locs C Mx → lv_has ls 9 [(0, .ref (zad G 12 0)), (1, .int (nI nm)), (2, .int (nI t1)), (3, .int (nI t2)), (6, .int (nI e0))] → W p l e { frames := 3, cells := 0, slots := 0, locals := 67 } s m args below meth c H locs 0 0 Q (F0 m 174 ls []) := by
              intro q1 q2 Mx hJa hJb hEx hQ H locs ls hW hl
              refine lv_aload_n hx hb dX5_move_174 rfl (lv_at hl 0 rfl) ?_
              refine g12 (k := 30) (v := .int (mF Mx 30)) hC hW (by decide) mF_X5_82 rfl dX5_move_175 ?_
              refine lv_if_ne (tgt := 210) hx hb dX5_move_178 (by decide) (fun h178 => ?_) (fun h178 => ?_)
              · have hK : Mx = mmvK Mx t1 t2 nm e0 := by unfold mmvK; rw [if_neg h178]
                have hJk0 : Jm Mx 0 d1 t1 q1 := Kp.J (Kp.rf) hJa
                have hJk : Jm Mx 1 d2 t2 q2 := Kp.J (Kp.rf) hJb
                have hEk : mA Mx 2 t2 = nI (mN Mx 2 t2) ∧ mN Mx 2 t2 ≤ 100 := ⟨hEx.1, hEx.2.1⟩
                refine lv_aload_n hx hb dX5_move_210 rfl (lv_at hl 0 rfl) ?_
                refine lv_iconst (v := 1) hx hb dX5_move_211 (by decide) ?_
                refine lv_iload hx hb dX5_move_212 (lv_at hl 4 rfl) ?_
                refine z_callV (As := [.int 1, .int (nI e0)]) (rest := []) (st1 := []) hC hW LL_12 rfl rfl rfl (c_close l G C Mx (mm := 1) (by decide) hJk.1 hJk.2.1 hJk.2.2.1 hJk.2.2.2.1 hEk.1 hEk.2 (b := e0) he1) mw_X5_close mv_X5_close mM_X5_146 ⟨Nat.le_of_ble_eq_true rfl, Nat.le_of_ble_eq_true rfl⟩ rfl rfl hl.1 (lv_room (Nat.le_of_ble_eq_true rfl)) dX5_move_214 rfl (fun H locs hW => ?_) ⟨Nat.zero_le _, Nat.zero_le _⟩
                obtain ⟨M6, eM6⟩ : ∃ z_, z_ = mclM Mx 1 d2 t2 e0 := ⟨_, rfl⟩
                rw [← eM6] at hW
                have hU1 : Un M6 1 d2 t2 := by rw [eM6]; exact U_clo hEk.1 hEk.2 hJk.U
                have hU0 : Un M6 0 d1 t1 := by rw [eM6]; exact (Kp_clo (by decide)).U hJk0.U
                refine lv_aload_n hx hb dX5_move_217 rfl (lv_at hl 0 rfl) ?_
                refine lv_iconst (v := 1) hx hb dX5_move_218 (by decide) ?_
                refine z_callV (As := [.int 1]) (rest := []) (st1 := []) hC hW LL_12 rfl rfl rfl (c_unmount l G C M6 (mm := 1) (by decide) hU1) mw_X5_unmount mv_X5_unmount mM_X5_149 ⟨Nat.le_of_ble_eq_true rfl, Nat.le_of_ble_eq_true rfl⟩ rfl rfl hl.1 (lv_room (Nat.le_of_ble_eq_true rfl)) dX5_move_219 rfl (fun H locs hW => ?_) ⟨Nat.zero_le _, Nat.zero_le _⟩
                obtain ⟨M7, eM7⟩ : ∃ z_, z_ = munM M6 1 d2 t2 := ⟨_, rfl⟩
                rw [← eM7] at hW
                refine lv_aload_n hx hb dX5_move_222 rfl (lv_at hl 0 rfl) ?_
                refine lv_iconst (v := 0) hx hb dX5_move_223 (by decide) ?_
                refine z_callV (As := [.int 0]) (rest := []) (st1 := []) hC hW LL_12 rfl rfl rfl (c_unmount l G C M7 (mm := 0) (by decide) (by rw [eM7]; exact (Kp_un (by decide)).U hU0)) mw_X5_unmount mv_X5_unmount mM_X5_149 ⟨Nat.le_of_ble_eq_true rfl, Nat.le_of_ble_eq_true rfl⟩ rfl rfl hl.1 (lv_room (Nat.le_of_ble_eq_true rfl)) dX5_move_224 rfl (fun H locs hW => ?_) ⟨Nat.zero_le _, Nat.zero_le _⟩
                obtain ⟨M8, eM8⟩ : ∃ z_, z_ = munM M7 0 d1 t1 := ⟨_, rfl⟩
                rw [← eM8] at hW
                refine lv_aload_n hx hb dX5_move_227 rfl (lv_at hl 0 rfl) ?_
                refine lv_iload hx hb dX5_move_228 (lv_at hl 4 rfl) ?_
                refine z_callV (As := [.int (nI e0)]) (rest := []) (st1 := [.int (menR M8 (nI e0))]) hC hW LL_12 rfl rfl rfl (c_X5_ended l G C M8 (nI e0)) mw_X5_ended mv_X5_ended mM_X5_153 ⟨Nat.le_of_ble_eq_true rfl, Nat.le_of_ble_eq_true rfl⟩ rfl rfl hl.1 (lv_room (Nat.le_of_ble_eq_true rfl)) dX5_move_230 rfl (fun H locs hW => ?_) ⟨Nat.zero_le _, Nat.zero_le _⟩
                obtain ⟨M9, eM9⟩ : ∃ z_, z_ = menE M8 := ⟨_, rfl⟩
                rw [← eM9] at hW
                have hD9 : mmvD Y d1 t1 d2 t2 nm pp z e0 = M8 := by unfold mmvD mmvU; rw [hQ, ← hK, ← eM6, ← eM7, eM8]
                rw [eM9] at hW
                rw [hD9] at hE
                exact hE hW rfl dX5_move_233
              · refine lv_aload_n hx hb dX5_move_181 rfl (lv_at hl 0 rfl) ?_
                refine g12 (k := 9) (v := .ref (zad G 13 9)) hC hW (by decide) mF_X5_35 rfl dX5_move_182 ?_
                refine lv_sipush (v := 1000) hx hb dX5_move_185 (by decide) ?_
                refine lv_iload_n hx hb dX5_move_188 rfl (lv_at hl 3 rfl) ?_
                refine zi_mul (i := 1000) (j := t2) hx hb rfl rfl dX5_move_189 ?_
                refine lv_iload_n hx hb dX5_move_190 rfl (lv_at hl 1 rfl) ?_
                refine zi_add (i := 1000 * t2) (j := nm) hx hb rfl rfl dX5_move_191 ?_
                refine lv_iload hx hb dX5_move_192 (lv_at hl 4 rfl) ?_
                refine lv_iconst (v := 1) hx hb dX5_move_194 (by decide) ?_
                refine zi_add (i := e0) (j := 1) hx hb rfl rfl dX5_move_195 ?_
                refine sm (i := 1000 * t2 + nm) (n := 12000) (v := nI (e0 + 1)) hC hW (by decide) rfl rfl (rfl) (by omega) dX5_move_196 (fun _ eS H locs hW => ?_)
                subst eS
                refine lv_aload_n hx hb dX5_move_197 rfl (lv_at hl 0 rfl) ?_
                refine g12 (k := 9) (v := .ref (zad G 13 9)) hC hW (by decide) mF_X5_35 rfl dX5_move_198 ?_
                refine lv_sipush (v := 1000) hx hb dX5_move_201 (by decide) ?_
                refine lv_iload_n hx hb dX5_move_204 rfl (lv_at hl 2 rfl) ?_
                refine zi_mul (i := 1000) (j := t1) hx hb rfl rfl dX5_move_205 ?_
                refine lv_iload_n hx hb dX5_move_206 rfl (lv_at hl 1 rfl) ?_
                refine zi_add (i := 1000 * t1) (j := nm) hx hb rfl rfl dX5_move_207 ?_
                refine lv_iconst (v := 0) hx hb dX5_move_208 (by decide) ?_
                refine sm (i := 1000 * t1 + nm) (n := 12000) (v := 0) hC hW (by decide) rfl rfl (rfl) (by omega) dX5_move_209 (fun _ eS H locs hW => ?_)
                subst eS
                have hK : smA (smA Mx 9 (1000 * t2 + nm) (nI (e0 + 1))) 9 (1000 * t1 + nm) 0 = mmvK Mx t1 t2 nm e0 := by unfold mmvK; rw [if_pos h178]
                have hJk0 : Jm (smA (smA Mx 9 (1000 * t2 + nm) (nI (e0 + 1))) 9 (1000 * t1 + nm) 0) 0 d1 t1 q1 := Kp.J ((Kp_A (Or.inl (by decide))).tr (Kp_A (Or.inl (by decide)))) hJa
                have hJk : Jm (smA (smA Mx 9 (1000 * t2 + nm) (nI (e0 + 1))) 9 (1000 * t1 + nm) 0) 1 d2 t2 q2 := Kp.J ((Kp_A (Or.inl (by decide))).tr (Kp_A (Or.inl (by decide)))) hJb
                have hEk : mA (smA (smA Mx 9 (1000 * t2 + nm) (nI (e0 + 1))) 9 (1000 * t1 + nm) 0) 2 t2 = nI (mN (smA (smA Mx 9 (1000 * t2 + nm) (nI (e0 + 1))) 9 (1000 * t1 + nm) 0) 2 t2) ∧ mN (smA (smA Mx 9 (1000 * t2 + nm) (nI (e0 + 1))) 9 (1000 * t1 + nm) 0) 2 t2 ≤ 100 := ⟨hEx.1, hEx.2.1⟩
                refine lv_aload_n hx hb dX5_move_210 rfl (lv_at hl 0 rfl) ?_
                refine lv_iconst (v := 1) hx hb dX5_move_211 (by decide) ?_
                refine lv_iload hx hb dX5_move_212 (lv_at hl 4 rfl) ?_
                refine z_callV (As := [.int 1, .int (nI e0)]) (rest := []) (st1 := []) hC hW LL_12 rfl rfl rfl (c_close l G C (smA (smA Mx 9 (1000 * t2 + nm) (nI (e0 + 1))) 9 (1000 * t1 + nm) 0) (mm := 1) (by decide) hJk.1 hJk.2.1 hJk.2.2.1 hJk.2.2.2.1 hEk.1 hEk.2 (b := e0) he1) mw_X5_close mv_X5_close mM_X5_146 ⟨Nat.le_of_ble_eq_true rfl, Nat.le_of_ble_eq_true rfl⟩ rfl rfl hl.1 (lv_room (Nat.le_of_ble_eq_true rfl)) dX5_move_214 rfl (fun H locs hW => ?_) ⟨Nat.zero_le _, Nat.zero_le _⟩
                obtain ⟨M10, eM10⟩ : ∃ z_, z_ = mclM (smA (smA Mx 9 (1000 * t2 + nm) (nI (e0 + 1))) 9 (1000 * t1 + nm) 0) 1 d2 t2 e0 := ⟨_, rfl⟩
                rw [← eM10] at hW
                have hU1 : Un M10 1 d2 t2 := by rw [eM10]; exact U_clo hEk.1 hEk.2 hJk.U
                have hU0 : Un M10 0 d1 t1 := by rw [eM10]; exact (Kp_clo (by decide)).U hJk0.U
                refine lv_aload_n hx hb dX5_move_217 rfl (lv_at hl 0 rfl) ?_
                refine lv_iconst (v := 1) hx hb dX5_move_218 (by decide) ?_
                refine z_callV (As := [.int 1]) (rest := []) (st1 := []) hC hW LL_12 rfl rfl rfl (c_unmount l G C M10 (mm := 1) (by decide) hU1) mw_X5_unmount mv_X5_unmount mM_X5_149 ⟨Nat.le_of_ble_eq_true rfl, Nat.le_of_ble_eq_true rfl⟩ rfl rfl hl.1 (lv_room (Nat.le_of_ble_eq_true rfl)) dX5_move_219 rfl (fun H locs hW => ?_) ⟨Nat.zero_le _, Nat.zero_le _⟩
                obtain ⟨M11, eM11⟩ : ∃ z_, z_ = munM M10 1 d2 t2 := ⟨_, rfl⟩
                rw [← eM11] at hW
                refine lv_aload_n hx hb dX5_move_222 rfl (lv_at hl 0 rfl) ?_
                refine lv_iconst (v := 0) hx hb dX5_move_223 (by decide) ?_
                refine z_callV (As := [.int 0]) (rest := []) (st1 := []) hC hW LL_12 rfl rfl rfl (c_unmount l G C M11 (mm := 0) (by decide) (by rw [eM11]; exact (Kp_un (by decide)).U hU0)) mw_X5_unmount mv_X5_unmount mM_X5_149 ⟨Nat.le_of_ble_eq_true rfl, Nat.le_of_ble_eq_true rfl⟩ rfl rfl hl.1 (lv_room (Nat.le_of_ble_eq_true rfl)) dX5_move_224 rfl (fun H locs hW => ?_) ⟨Nat.zero_le _, Nat.zero_le _⟩
                obtain ⟨M12, eM12⟩ : ∃ z_, z_ = munM M11 0 d1 t1 := ⟨_, rfl⟩
                rw [← eM12] at hW
                refine lv_aload_n hx hb dX5_move_227 rfl (lv_at hl 0 rfl) ?_
                refine lv_iload hx hb dX5_move_228 (lv_at hl 4 rfl) ?_
                refine z_callV (As := [.int (nI e0)]) (rest := []) (st1 := [.int (menR M12 (nI e0))]) hC hW LL_12 rfl rfl rfl (c_X5_ended l G C M12 (nI e0)) mw_X5_ended mv_X5_ended mM_X5_153 ⟨Nat.le_of_ble_eq_true rfl, Nat.le_of_ble_eq_true rfl⟩ rfl rfl hl.1 (lv_room (Nat.le_of_ble_eq_true rfl)) dX5_move_230 rfl (fun H locs hW => ?_) ⟨Nat.zero_le _, Nat.zero_le _⟩
                obtain ⟨M13, eM13⟩ : ∃ z_, z_ = menE M12 := ⟨_, rfl⟩
                rw [← eM13] at hW
                have hD9 : mmvD Y d1 t1 d2 t2 nm pp z e0 = M12 := by unfold mmvD mmvU; rw [hQ, ← hK, ← eM10, ← eM11, eM12]
                rw [eM13] at hW
                rw [hD9] at hE
                exact hE hW rfl dX5_move_233
            refine lv_iconst (v := 0) hx hb dX5_move_116 (by decide) ?_
            refine lv_istore (lv' := [(7, .int 0), (6, .int (nI e0)), (5, .int (nI z)), (4, .int (nI pp)), (0, .ref (zad G 12 0)), (1, .int (nI nm)), (2, .int (nI t1)), (3, .int (nI t2))]) hx hb dX5_move_117 hl (by decide) rfl (fun ls hl => ?_)
            have lp : ∀ (k : Nat) (i : Nat) (Mj : MS), i + k = z + 2 → Jm Mj 0 d1 t1 (pp + i) → Jm Mj 1 d2 t2 (e0 + i) → En Mj t2 (e0 + i) → mmvL d1 t1 d2 t2 k (pp + i) (e0 + i) Mj = mmvX Y d1 t1 d2 t2 pp z e0 → ∀ (H : Heap) (locs : List Loc) (ls : Array Slot), Wd G s A s.heap H locs C Mj → lv_has ls 9 [(0, .ref (zad G 12 0)), (1, .int (nI nm)), (2, .int (nI t1)), (3, .int (nI t2)), (5, .int (nI z)), (6, .int (nI e0)), (7, .int (nI i))] → W p l e { frames := 3, cells := 0, slots := 0, locals := 67 } s m args below meth c H locs 0 0 Q (F0 m 119 ls []) := by
              intro k
              induction k with
              | zero =>
                intro i Mj hk2 hJa hJb hEj hD H locs ls hW hl
                refine lv_iload hx hb dX5_move_119 (lv_at hl 6 rfl) ?_
                refine lv_iload hx hb dX5_move_121 (lv_at hl 4 rfl) ?_
                refine lv_iconst (v := 2) hx hb dX5_move_123 (by decide) ?_
                refine zi_add (i := z) (j := 2) hx hb rfl rfl dX5_move_124 ?_
                refine zc_ge (i := i) (j := z + 2) (tgt := 174) hx hb rfl rfl (by omega) (by omega) dX5_move_125 (by decide) (fun h125 => ?_) (fun h125 => ?_)
                · exact J (pp + i) (e0 + i) Mj hJa hJb hEj (by rw [← hD]; rfl) _ _ _ hW (lv_sub hl [0, 1, 2, 3, 5] rfl)
                · exact absurd h125 (by omega)
              | succ k ih =>
                intro i Mj hk2 hJa hJb hEj hD H locs ls hW hl
                have hqz : pp + i < 100 := by omega
                refine lv_iload hx hb dX5_move_119 (lv_at hl 6 rfl) ?_
                refine lv_iload hx hb dX5_move_121 (lv_at hl 4 rfl) ?_
                refine lv_iconst (v := 2) hx hb dX5_move_123 (by decide) ?_
                refine zi_add (i := z) (j := 2) hx hb rfl rfl dX5_move_124 ?_
                refine zc_ge (i := i) (j := z + 2) (tgt := 174) hx hb rfl rfl (by omega) (by omega) dX5_move_125 (by decide) (fun h125 => ?_) (fun h125 => ?_)
                · exact absurd h125 (by omega)
                · refine lv_aload_n hx hb dX5_move_128 rfl (lv_at hl 0 rfl) ?_
                  refine g12 (k := 30) (v := .int (mF Mj 30)) hC hW (by decide) mF_X5_82 rfl dX5_move_129 ?_
                  refine lv_if_ne (tgt := 174) hx hb dX5_move_132 (by decide) (fun h132 => ?_) (fun h132 => ?_)
                  · exact J (pp + i) (e0 + i) Mj hJa hJb hEj (by rw [← hD, mmvL, if_pos h132]) _ _ _ hW (lv_sub hl [0, 1, 2, 3, 5] rfl)
                  · refine lv_aload_n hx hb dX5_move_135 rfl (lv_at hl 0 rfl) ?_
                    refine lv_iconst (v := 0) hx hb dX5_move_136 (by decide) ?_
                    refine z_callV (As := [.int 0]) (rest := []) (st1 := [.int (nI (100 * t1 + (pp + i)))]) hC hW LL_12 rfl rfl rfl (c_take l G C Mj (mm := 0) (by decide) h132 hqz hJa) mw_X5_take mv_X5_take mM_X5_157 ⟨Nat.le_of_ble_eq_true rfl, Nat.le_of_ble_eq_true rfl⟩ rfl rfl hl.1 (lv_room (Nat.le_of_ble_eq_true rfl)) dX5_move_137 rfl (fun H locs hW => ?_) ⟨Nat.zero_le _, Nat.zero_le _⟩
                    obtain ⟨M14, eM14⟩ : ∃ z_, z_ = mtak Mj 0 d1 t1 (pp + i) := ⟨_, rfl⟩
                    rw [← eM14] at hW
                    have hJt0 : Jm M14 0 d1 t1 (pp + i + 1) := by rw [eM14]; exact J_tak h132 hqz hJa
                    have hJt1 : Jm M14 1 d2 t2 (e0 + i) := by rw [eM14]; exact (Kp_tak (by decide) h132).J hJb
                    have hEt : En M14 t2 (e0 + i) := by rw [eM14]; exact En_of hEj (mtak_A (by decide)) (fun _ => ⟨h132, rfl⟩)
                    refine lv_istore (lv' := [(8, .int (nI (100 * t1 + (pp + i)))), (0, .ref (zad G 12 0)), (1, .int (nI nm)), (2, .int (nI t1)), (3, .int (nI t2)), (5, .int (nI z)), (6, .int (nI e0)), (7, .int (nI i))]) hx hb dX5_move_140 hl (by decide) rfl (fun ls hl => ?_)
                    refine lv_aload_n hx hb dX5_move_142 rfl (lv_at hl 1 rfl) ?_
                    refine lv_iconst (v := 1) hx hb dX5_move_143 (by decide) ?_
                    refine lv_aload_n hx hb dX5_move_144 rfl (lv_at hl 1 rfl) ?_
                    refine g12 (k := 5) (v := .ref (zad G 13 5)) hC hW (by decide) mF_X5_22 rfl dX5_move_145 ?_
                    refine lv_iload hx hb dX5_move_148 (lv_at hl 0 rfl) ?_
                    refine am (i := 100 * t1 + (pp + i)) (n := 1200) hC hW (by decide) rfl rfl (rfl) (by omega) dX5_move_150 ?_
                    refine lv_aload_n hx hb dX5_move_151 rfl (lv_at hl 1 rfl) ?_
                    refine g12 (k := 6) (v := .ref (zad G 13 6)) hC hW (by decide) mF_X5_25 rfl dX5_move_152 ?_
                    refine lv_iload hx hb dX5_move_155 (lv_at hl 0 rfl) ?_
                    refine am (i := 100 * t1 + (pp + i)) (n := 1200) hC hW (by decide) rfl rfl (rfl) (by omega) dX5_move_157 ?_
                    refine lv_aload_n hx hb dX5_move_158 rfl (lv_at hl 1 rfl) ?_
                    refine g12 (k := 7) (v := .ref (zad G 13 7)) hC hW (by decide) mF_X5_28 rfl dX5_move_159 ?_
                    refine lv_iload hx hb dX5_move_162 (lv_at hl 0 rfl) ?_
                    refine am (i := 100 * t1 + (pp + i)) (n := 1200) hC hW (by decide) rfl rfl (rfl) (by omega) dX5_move_164 ?_
                    refine z_callV (As := [.int 1, .int (mA M14 5 (100 * t1 + (pp + i))), .int (mA M14 6 (100 * t1 + (pp + i))), .int (mA M14 7 (100 * t1 + (pp + i)))]) (rest := []) (st1 := []) hC hW LL_12 rfl rfl rfl (c_write l G C M14 (mm := 1) (by decide) hJt1 (mA M14 5 (100 * t1 + (pp + i))) (mA M14 6 (100 * t1 + (pp + i))) (mA M14 7 (100 * t1 + (pp + i)))) mw_X5_write mv_X5_write mM_X5_142 ⟨Nat.le_of_ble_eq_true rfl, Nat.le_of_ble_eq_true rfl⟩ rfl rfl hl.1 (lv_room (Nat.le_of_ble_eq_true rfl)) dX5_move_165 rfl (fun H locs hW => ?_) ⟨Nat.zero_le _, Nat.zero_le _⟩
                    obtain ⟨M15, eM15⟩ : ∃ z_, z_ = mwr1 M14 1 d2 t2 (e0 + i) (mA M14 5 (100 * t1 + (pp + i))) (mA M14 6 (100 * t1 + (pp + i))) (mA M14 7 (100 * t1 + (pp + i))) := ⟨_, rfl⟩
                    rw [← eM15] at hW
                    refine lv_iinc (k := 7) (v := nI (i + 1)) (lv' := [(7, .int (nI (i + 1))), (8, .int (nI (100 * t1 + (pp + i)))), (0, .ref (zad G 12 0)), (1, .int (nI nm)), (2, .int (nI t1)), (3, .int (nI t2)), (5, .int (nI z)), (6, .int (nI e0))]) hx hb dX5_move_168 hl rfl (nI_inc _) (by decide) rfl (fun ls hl => ?_)
                    refine lv_goto (tgt := 119) hx hb dX5_move_171 (by decide) ?_
                    exact ih (i + 1) M15 (by omega) (by rw [eM15]; exact (Kp_wr1 (by decide)).J hJt0) (by rw [eM15]; exact J_wr1 hJt1) (by rw [eM15]; exact En_wr1 hEt hJt1) (by rw [← hD, mmvL, if_neg (fun z => z h132)]; unfold mmvS; rw [← eM14, eM15]; rfl) _ _ _ hW (lv_sub hl [2, 3, 4, 5, 6, 7, 0] rfl)
            exact lp (z + 2) 0 M5 (by omega) hJ0b hJ1b hE5 hX5 _ _ _ hW (lv_sub hl [4, 5, 6, 7, 2, 1, 0] rfl)
          · exact absurd h42 (by rw [hk]; exact nI_ne0 (by omega) (by omega))
        · exact absurd h25 hs

