/-! ===== the reference: copy, readFile ===== -/
theorem c_mount_s (l : Launch) (G : GG) (C : CS) (M : MS) {mm : Nat} (hm : mm < 2) (h0 : mF M 30 = 0) {t h d : Nat} (ht : t < 12) (hh : mA M 1 t = nI h) (hh32 : h < 32) (hN : mdC M h = some d) : Ct l G yX5_mount cX5_mount 5 none 1 22 [.ref (zad G 12 0), .int (nI mm), .int (nI t)] C M none C (moD M mm t h d) := by
  have := c_X5_mount_0 l G C M hm h0 ht hh hh32
  unfold moS at this
  rw [hN] at this
  exact this
theorem c_mount_n (l : Launch) (G : GG) (C : CS) (M : MS) {mm : Nat} (hm : mm < 2) (h0 : mF M 30 = 0) {t h : Nat} (ht : t < 12) (hh : mA M 1 t = nI h) (hh32 : h < 32) (hN : mdC M h = none) : Ct l G yX5_mount cX5_mount 5 none 1 22 [.ref (zad G 12 0), .int (nI mm), .int (nI t)] C M none C (moN M mm) := by
  have := c_X5_mount_0 l G C M hm h0 ht hh hh32
  unfold moS at this
  rw [hN] at this
  exact this
def mcpL (d t : Nat) (sd sp : Int32) : Nat → Nat → Nat → MS → MS
  | 0, _, _, M => M
  | k + 1, j, q, M => mcpL d t sd sp k (j + 1) (q + 1) (mwr1 M 0 d t q 2 (sd + nI j * sp) 0)
def mcpH (M : MS) (d t e0 nm sz : Nat) : MS := mwr1 (mwin M 0 0 e0) 0 d t e0 1 (nI nm) (nI sz)
def mcpW (M : MS) (d t e0 nm sz : Nat) (sd sp : Int32) : MS := mwr1 (mcpL d t sd sp sz 0 (e0 + 1) (mcpH M d t e0 nm sz)) 0 d t (e0 + 1 + sz) 3 0 0
def mcpK (M : MS) (t nm e0 : Nat) : MS := if mF M 30 = 0 then smA M 9 (1000 * t + nm) (nI (e0 + 1)) else M
def mcpU (M : MS) (d t e0 : Nat) : MS := munM (mclM M 0 d t e0) 0 d t
def mcpD (M : MS) (t e0 nm sz : Nat) (sd sp : Int32) (h d : Nat) : MS := mcpU (mcpK (mcpW (moD (mbeg M) 0 t h d) d t e0 nm sz sd sp) t nm e0) d t e0
/-- a tape's end, and where it stands while things go on -/
def En (M : MS) (t q : Nat) : Prop := mA M 2 t = nI (mN M 2 t) ∧ mN M 2 t ≤ 100 ∧ (mF M 30 = 0 → mN M 2 t = q)
theorem mpas1_b {M : MS} {mm d q : Nat} (hz : mF (mpas1 M mm d q) 30 = 0) : q ≠ 100 := (mpas1_z hz).1
theorem En_wr1 {M : MS} {mm d t q : Nat} {k n z : Int32} (hE : En M t q) (hJ : Jm M mm d t q) : En (mwr1 M mm d t q k n z) t (q + 1) := by
  obtain ⟨h1, h2, h3⟩ := hE
  unfold mwr1; split
  · rename_i h0; exact ⟨h1, h2, fun z => absurd z h0⟩
  · rename_i h0
    have h0 := Classical.byContradiction h0
    have hq := (hJ.2.2.2.2.1 h0).2.2
    have hq3 := h3 h0
    unfold mwri; split
    · rename_i hz
      have hb := mpas1_b hz
      have e2 : mA (mput (mpas1 M mm d q) t q k n z) 2 t = nI (q + 1) := by
        rw [mput_2, if_pos rfl, mpas1_A (by decide), h1, hq3, nI_1]
      have e3 : mN (mput (mpas1 M mm d q) t q k n z) 2 t = q + 1 := mN_of e2 (by omega)
      exact ⟨by rw [e3]; exact e2, by omega, fun _ => e3⟩
    · rename_i hz
      have e2 : mA (mpas1 M mm d q) 2 t = mA M 2 t := mpas1_A (by decide)
      have e3 : mN (mpas1 M mm d q) 2 t = mN M 2 t := by unfold mN; rw [e2]
      exact ⟨by rw [e2, e3]; exact h1, by rw [e3]; exact h2, fun z => absurd z hz⟩
theorem En_of {M M' : MS} {t q q' : Nat} (h : En M t q) (e : mA M' 2 t = mA M 2 t) (hw : mF M' 30 = 0 → mF M 30 = 0 ∧ q = q') : En M' t q' := by
  have e3 : mN M' 2 t = mN M 2 t := by unfold mN; rw [e]
  exact ⟨by rw [e, e3]; exact h.1, by rw [e3]; exact h.2.1, fun z => by rw [e3, h.2.2 (hw z).1]; exact (hw z).2⟩
theorem mwL_0 {mm : Nat} : ∀ (k q : Nat) (M : MS), mF M 30 = 0 → mF (mwL mm k q M) 30 = 0 ∨ mF (mwL mm k q M) 30 = -4 := by
  intro k
  induction k with
  | zero => intro c M h; exact Or.inl h
  | succ k ih =>
    intro c M h; unfold mwL; split
    · rename_i hp; exact ih _ _ (mwM_w h hp)
    · rename_i hp; exact Or.inr (mwM_c hp)
theorem mwin_0 {M : MS} {mm q pp : Nat} (h : mF (mwin M mm q pp) 30 = 0) : mF M 30 = 0 := by
  unfold mwin at h; split at h
  · exact h
  · rename_i z; exact Classical.byContradiction z
def mrf0 (M : MS) : MS := smF M 24 (if mF M 30 = 0 then 1 else mF M 24)
def mrfF (M : MS) (a : Nat) : MS := smF M 24 (if mF M 30 = 0 then (if mA M 5 a = 2 then 31 * mF M 24 + mA M 6 a else mF M 24) else mF M 24)
def mrfL (d t : Nat) : Nat → Nat → MS → MS
  | 0, _, M => M
  | k + 1, q, M => if mF M 30 ≠ 0 then M else mrfL d t k (q + 1) (mrfF (mtak M 0 d t q) (100 * t + q))
def mrfD (M : MS) (t pp z h d : Nat) : MS := munM (mrfL d t (z + 2) pp (mwin (mrf0 (moD (mbeg M) 0 t h d)) 0 0 pp)) 0 d t
def mrfN (M : MS) : MS := mrf0 (moN (mbeg M) 0)

set_option maxHeartbeats 4000000 in
set_option maxRecDepth 100000 in
theorem m_copy_b (l : Launch) (G : GG) (C : CS) (M : MS) {n : Nat} (h12 : n ≤ 12) (hn : mF M 0 = nI n) {x : Int32} (hbx : badT n x) : Ct l G yX5_copy cX5_copy 4 (some .int) 3 67 [.ref (zad G 12 0), .int x] C M (some (.int (-1))) C M := by
  refine Ct_i (by decide) (Nat.le_of_ble_eq_true rfl) (fun {p e s m args below meth c A Q ls} hC hW hl hE => ?_)
  have hx := hC.1
  have hb := hC.2.1
  have hl : lv_has ls 4 [(0, .ref (zad G 12 0)), (1, .int x)] := hl
  refine lv_aload_n hx hb dX5_copy_0 rfl (lv_at hl 0 rfl) ?_
  refine lv_iload_n hx hb dX5_copy_1 rfl (lv_at hl 1 rfl) ?_
  refine z_callV (As := [.int x]) (rest := []) (st1 := [.int (bI (¬ badT n x))]) hC hW LL_12 rfl rfl rfl (c_X5_isTape l G C M h12 hn x) mw_X5_isTape mv_X5_isTape mM_X5_129 ⟨Nat.le_of_ble_eq_true rfl, Nat.le_of_ble_eq_true rfl⟩ rfl rfl hl.1 (lv_room (Nat.le_of_ble_eq_true rfl)) dX5_copy_2 rfl (fun H locs hW => ?_) ⟨Nat.zero_le _, Nat.zero_le _⟩
  refine zb_ne (tgt := 10) hx hb (¬ badT n x) rfl dX5_copy_5 (by decide) (fun h5 => ?_) (fun h5 => ?_)
  · exact absurd hbx h5
  · refine lv_iconst (v := (-1)) hx hb dX5_copy_8 (by decide) ?_
    have qr : ((-1) : Int32) = -1 := by simp [bI, h5, cF_sF, cN_sN, cB_sB, cM_sM, cN_sF, cB_sF, cM_sF, cF_sN, cB_sN, cM_sN, cF_sB, cN_sB, cM_sB, cF_sM, cN_sM, cB_sM, mF_smF, mA_smF, mF_smA, mA_smA]
    exact hE hW qr dX5_copy_9

set_option maxHeartbeats 4000000 in
set_option maxRecDepth 100000 in
theorem m_copy_0 (l : Launch) (G : GG) (C : CS) (M : MS) {n : Nat} (h12 : n ≤ 12) (hn : mF M 0 = nI n) {t : Nat} (ht : t < n) (hs : mF M 21 = 0) : Ct l G yX5_copy cX5_copy 4 (some .int) 3 67 [.ref (zad G 12 0), .int (nI t)] C M (some (.int (-2))) C M := by
  refine Ct_i (by decide) (Nat.le_of_ble_eq_true rfl) (fun {p e s m args below meth c A Q ls} hC hW hl hE => ?_)
  have hx := hC.1
  have hb := hC.2.1
  have hl : lv_has ls 4 [(0, .ref (zad G 12 0)), (1, .int (nI t))] := hl
  refine lv_aload_n hx hb dX5_copy_0 rfl (lv_at hl 0 rfl) ?_
  refine lv_iload_n hx hb dX5_copy_1 rfl (lv_at hl 1 rfl) ?_
  refine z_callV (As := [.int (nI t)]) (rest := []) (st1 := [.int (bI (¬ badT n (nI t)))]) hC hW LL_12 rfl rfl rfl (c_X5_isTape l G C M h12 hn (nI t)) mw_X5_isTape mv_X5_isTape mM_X5_129 ⟨Nat.le_of_ble_eq_true rfl, Nat.le_of_ble_eq_true rfl⟩ rfl rfl hl.1 (lv_room (Nat.le_of_ble_eq_true rfl)) dX5_copy_2 rfl (fun H locs hW => ?_) ⟨Nat.zero_le _, Nat.zero_le _⟩
  refine zb_ne (tgt := 10) hx hb (¬ badT n (nI t)) rfl dX5_copy_5 (by decide) (fun h5 => ?_) (fun h5 => ?_)
  · refine lv_aload_n hx hb dX5_copy_10 rfl (lv_at hl 0 rfl) ?_
    refine g12 (k := 21) (v := .int (mF M 21)) hC hW (by decide) mF_X5_120 rfl dX5_copy_11 ?_
    refine lv_if_ne (tgt := 20) hx hb dX5_copy_14 (by decide) (fun h14 => ?_) (fun h14 => ?_)
    · exact absurd hs h14
    · refine lv_bipush (v := (-2)) hx hb dX5_copy_17 (by decide) ?_
      have qr : ((-2) : Int32) = -2 := by simp [bI, h5, h14, cF_sF, cN_sN, cB_sB, cM_sM, cN_sF, cB_sF, cM_sF, cF_sN, cB_sN, cM_sN, cF_sB, cN_sB, cM_sB, cF_sM, cN_sM, cB_sM, mF_smF, mA_smF, mF_smA, mA_smA]
      exact hE hW qr dX5_copy_19
  · exact absurd (not_bad h12 ht) h5

set_option maxHeartbeats 4000000 in
set_option maxRecDepth 100000 in
theorem m_copy_n (l : Launch) (G : GG) (C : CS) (M : MS) {n : Nat} (h12 : n ≤ 12) (hn : mF M 0 = nI n) {t : Nat} (ht : t < n) {sz nm e0 h : Nat} (hs1 : 1 ≤ sz) (hs30 : sz ≤ 30) (hsz : mF M 21 = nI sz) (he : mA M 2 t = nI e0) (hh : mA M 1 t = nI h) (hh32 : h < 32) (hN : mdC M h = none) : Ct l G yX5_copy cX5_copy 4 (some .int) 3 67 [.ref (zad G 12 0), .int (nI t)] C M (some (.int (menR (moN (mbeg M) 0) (nI e0)))) C (menE (moN (mbeg M) 0)) := by
  refine Ct_i (by decide) (Nat.le_of_ble_eq_true rfl) (fun {p e s m args below meth c A Q ls} hC hW hl hE => ?_)
  have hx := hC.1
  have hb := hC.2.1
  have hl : lv_has ls 4 [(0, .ref (zad G 12 0)), (1, .int (nI t))] := hl
  refine lv_aload_n hx hb dX5_copy_0 rfl (lv_at hl 0 rfl) ?_
  refine lv_iload_n hx hb dX5_copy_1 rfl (lv_at hl 1 rfl) ?_
  refine z_callV (As := [.int (nI t)]) (rest := []) (st1 := [.int (bI (¬ badT n (nI t)))]) hC hW LL_12 rfl rfl rfl (c_X5_isTape l G C M h12 hn (nI t)) mw_X5_isTape mv_X5_isTape mM_X5_129 ⟨Nat.le_of_ble_eq_true rfl, Nat.le_of_ble_eq_true rfl⟩ rfl rfl hl.1 (lv_room (Nat.le_of_ble_eq_true rfl)) dX5_copy_2 rfl (fun H locs hW => ?_) ⟨Nat.zero_le _, Nat.zero_le _⟩
  refine zb_ne (tgt := 10) hx hb (¬ badT n (nI t)) rfl dX5_copy_5 (by decide) (fun h5 => ?_) (fun h5 => ?_)
  · refine lv_aload_n hx hb dX5_copy_10 rfl (lv_at hl 0 rfl) ?_
    refine g12 (k := 21) (v := .int (mF M 21)) hC hW (by decide) mF_X5_120 rfl dX5_copy_11 ?_
    refine z_top (y := nI sz) (hsz) ?_
    refine zf_ne (i := sz) (tgt := 20) hx hb rfl (by omega) dX5_copy_14 (by decide) (fun h14 => ?_) (fun h14 => ?_)
    · refine lv_aload_n hx hb dX5_copy_20 rfl (lv_at hl 0 rfl) ?_
      refine z_callV (As := []) (rest := []) (st1 := []) hC hW LL_12 rfl rfl rfl (c_X5_begin l G C M) mw_X5_begin mv_X5_begin mM_X5_132 ⟨Nat.le_of_ble_eq_true rfl, Nat.le_of_ble_eq_true rfl⟩ rfl rfl hl.1 (lv_room (Nat.le_of_ble_eq_true rfl)) dX5_copy_21 rfl (fun H locs hW => ?_) ⟨Nat.zero_le _, Nat.zero_le _⟩
      obtain ⟨M1, eM1⟩ : ∃ z_, z_ = mbeg M := ⟨_, rfl⟩
      rw [← eM1] at hW
      refine lv_aload_n hx hb dX5_copy_24 rfl (lv_at hl 0 rfl) ?_
      refine lv_iconst (v := 0) hx hb dX5_copy_25 (by decide) ?_
      refine lv_iload_n hx hb dX5_copy_26 rfl (lv_at hl 1 rfl) ?_
      refine z_callV (As := [.int 0, .int (nI t)]) (rest := []) (st1 := []) hC hW LL_12 rfl rfl rfl (c_mount_n l G C M1 (mm := 0) (by decide) (by rw [eM1]; rfl) (t := t) (h := h) (by omega) (by rw [eM1]; exact hh) hh32 (by rw [eM1]; exact hN)) mw_X5_mount mv_X5_mount mM_X5_135 ⟨Nat.le_of_ble_eq_true rfl, Nat.le_of_ble_eq_true rfl⟩ rfl rfl hl.1 (lv_room (Nat.le_of_ble_eq_true rfl)) dX5_copy_27 rfl (fun H locs hW => ?_) ⟨Nat.zero_le _, Nat.zero_le _⟩
      obtain ⟨M2, eM2⟩ : ∃ z_, z_ = moN M1 0 := ⟨_, rfl⟩
      rw [← eM2] at hW
      have hw2 : mF M2 30 ≠ 0 := by rw [eM2]; exact (show ¬ ((-3 : Int32) = 0) by decide)
      have hA2 : mA M2 = mA (smA (mo0 M 0) 15 0 (-1)) := by rw [eM2, eM1]; rfl
      refine lv_aload_n hx hb dX5_copy_30 rfl (lv_at hl 0 rfl) ?_
      refine g12 (k := 2) (v := .ref (zad G 13 2)) hC hW (by decide) mF_X5_13 rfl dX5_copy_31 ?_
      refine lv_iload_n hx hb dX5_copy_34 rfl (lv_at hl 1 rfl) ?_
      refine am (i := t) (n := 12) hC hW (by decide) rfl rfl (rfl) (by omega) dX5_copy_35 ?_
      refine z_top (y := nI e0) (by rw [hA2, mA_nj (by decide), mo0_A (by decide)]; exact he) ?_
      refine lv_istore_n (lv' := [(2, .int (nI e0)), (0, .ref (zad G 12 0)), (1, .int (nI t))]) hx hb dX5_copy_36 rfl hl (by decide) rfl (fun ls hl => ?_)
      refine lv_aload_n hx hb dX5_copy_37 rfl (lv_at hl 1 rfl) ?_
      refine lv_iconst (v := 0) hx hb dX5_copy_38 (by decide) ?_
      refine lv_iload_n hx hb dX5_copy_39 rfl (lv_at hl 0 rfl) ?_
      refine z_callV (As := [.int 0, .int (nI e0)]) (rest := []) (st1 := []) hC hW LL_12 rfl rfl rfl (c_X5_wind_f l G C M2 (mm := 0) (by decide) hw2 (nI e0)) mw_X5_wind mv_X5_wind mM_X5_139 ⟨Nat.le_of_ble_eq_true rfl, Nat.le_of_ble_eq_true rfl⟩ rfl rfl hl.1 (lv_room (Nat.le_of_ble_eq_true rfl)) dX5_copy_40 rfl (fun H locs hW => ?_) ⟨Nat.zero_le _, Nat.zero_le _⟩
      refine lv_aload_n hx hb dX5_copy_43 rfl (lv_at hl 1 rfl) ?_
      refine lv_iconst (v := 0) hx hb dX5_copy_44 (by decide) ?_
      refine lv_iconst (v := 1) hx hb dX5_copy_45 (by decide) ?_
      refine lv_aload_n hx hb dX5_copy_46 rfl (lv_at hl 1 rfl) ?_
      refine g12 (k := 20) (v := .int (mF M2 20)) hC hW (by decide) mF_X5_117 rfl dX5_copy_47 ?_
      refine lv_aload_n hx hb dX5_copy_50 rfl (lv_at hl 1 rfl) ?_
      refine g12 (k := 21) (v := .int (mF M2 21)) hC hW (by decide) mF_X5_120 rfl dX5_copy_51 ?_
      refine z_callV (As := [.int 0, .int 1, .int (mF M2 20), .int (mF M2 21)]) (rest := []) (st1 := []) hC hW LL_12 rfl rfl rfl (c_X5_write_f l G C M2 (mm := 0) (by decide) hw2 1 (mF M2 20) (mF M2 21)) mw_X5_write mv_X5_write mM_X5_142 ⟨Nat.le_of_ble_eq_true rfl, Nat.le_of_ble_eq_true rfl⟩ rfl rfl hl.1 (lv_room (Nat.le_of_ble_eq_true rfl)) dX5_copy_54 rfl (fun H locs hW => ?_) ⟨Nat.zero_le _, Nat.zero_le _⟩
      refine lv_iconst (v := 0) hx hb dX5_copy_57 (by decide) ?_
      refine lv_istore_n (lv' := [(3, .int 0), (2, .int (nI e0)), (0, .ref (zad G 12 0)), (1, .int (nI t))]) hx hb dX5_copy_58 rfl hl (by decide) rfl (fun ls hl => ?_)
      have lp : ∀ (k : Nat) (j : Nat), j + k = sz → ∀ (H : Heap) (locs : List Loc) (ls : Array Slot), Wd G s A s.heap H locs C M2 → lv_has ls 4 [(0, .ref (zad G 12 0)), (1, .int (nI t)), (2, .int (nI e0)), (3, .int (nI j))] → W p l e { frames := 3, cells := 0, slots := 0, locals := 67 } s m args below meth c H locs 0 0 Q (F0 m 59 ls []) := by
        intro k
        induction k with
        | zero =>
          intro j hk H locs ls hW hl
          refine lv_iload_n hx hb dX5_copy_59 rfl (lv_at hl 3 rfl) ?_
          refine lv_aload_n hx hb dX5_copy_60 rfl (lv_at hl 0 rfl) ?_
          refine g12 (k := 21) (v := .int (mF M2 21)) hC hW (by decide) mF_X5_120 rfl dX5_copy_61 ?_
          refine z_top (y := nI sz) (by rw [eM2, eM1]; exact hsz) ?_
          refine zc_ge (i := j) (j := sz) (tgt := 91) hx hb rfl rfl (by omega) (by omega) dX5_copy_64 (by decide) (fun h64 => ?_) (fun h64 => ?_)
          · refine lv_aload_n hx hb dX5_copy_91 rfl (lv_at hl 0 rfl) ?_
            refine lv_iconst (v := 0) hx hb dX5_copy_92 (by decide) ?_
            refine lv_iconst (v := 3) hx hb dX5_copy_93 (by decide) ?_
            refine lv_iconst (v := 0) hx hb dX5_copy_94 (by decide) ?_
            refine lv_iconst (v := 0) hx hb dX5_copy_95 (by decide) ?_
            refine z_callV (As := [.int 0, .int 3, .int 0, .int 0]) (rest := []) (st1 := []) hC hW LL_12 rfl rfl rfl (c_X5_write_f l G C M2 (mm := 0) (by decide) hw2 3 0 0) mw_X5_write mv_X5_write mM_X5_142 ⟨Nat.le_of_ble_eq_true rfl, Nat.le_of_ble_eq_true rfl⟩ rfl rfl hl.1 (lv_room (Nat.le_of_ble_eq_true rfl)) dX5_copy_96 rfl (fun H locs hW => ?_) ⟨Nat.zero_le _, Nat.zero_le _⟩
            refine lv_aload_n hx hb dX5_copy_99 rfl (lv_at hl 0 rfl) ?_
            refine g12 (k := 30) (v := .int (mF M2 30)) hC hW (by decide) mF_X5_82 rfl dX5_copy_100 ?_
            refine lv_if_ne (tgt := 124) hx hb dX5_copy_103 (by decide) (fun h103 => ?_) (fun h103 => ?_)
            · refine lv_aload_n hx hb dX5_copy_124 rfl (lv_at hl 0 rfl) ?_
              refine lv_iconst (v := 0) hx hb dX5_copy_125 (by decide) ?_
              refine lv_iload_n hx hb dX5_copy_126 rfl (lv_at hl 2 rfl) ?_
              refine z_callV (As := [.int 0, .int (nI e0)]) (rest := []) (st1 := []) hC hW LL_12 rfl rfl rfl (c_X5_close_n l G C M2 (mm := 0) (by decide) (by rw [hA2, mA_nj (by decide)]; unfold mo0; rw [mA_nj (by decide), mA_self]) (nI e0)) mw_X5_close mv_X5_close mM_X5_146 ⟨Nat.le_of_ble_eq_true rfl, Nat.le_of_ble_eq_true rfl⟩ rfl rfl hl.1 (lv_room (Nat.le_of_ble_eq_true rfl)) dX5_copy_127 rfl (fun H locs hW => ?_) ⟨Nat.zero_le _, Nat.zero_le _⟩
              refine lv_aload_n hx hb dX5_copy_130 rfl (lv_at hl 0 rfl) ?_
              refine lv_iconst (v := 0) hx hb dX5_copy_131 (by decide) ?_
              refine z_callV (As := [.int 0]) (rest := []) (st1 := []) hC hW LL_12 rfl rfl rfl (c_X5_unmount_n l G C M2 (mm := 0) (by decide) (by rw [hA2, mA_self])) mw_X5_unmount mv_X5_unmount mM_X5_149 ⟨Nat.le_of_ble_eq_true rfl, Nat.le_of_ble_eq_true rfl⟩ rfl rfl hl.1 (lv_room (Nat.le_of_ble_eq_true rfl)) dX5_copy_132 rfl (fun H locs hW => ?_) ⟨Nat.zero_le _, Nat.zero_le _⟩
              refine lv_aload_n hx hb dX5_copy_135 rfl (lv_at hl 0 rfl) ?_
              refine lv_iload_n hx hb dX5_copy_136 rfl (lv_at hl 2 rfl) ?_
              refine z_callV (As := [.int (nI e0)]) (rest := []) (st1 := [.int (menR M2 (nI e0))]) hC hW LL_12 rfl rfl rfl (c_X5_ended l G C M2 (nI e0)) mw_X5_ended mv_X5_ended mM_X5_153 ⟨Nat.le_of_ble_eq_true rfl, Nat.le_of_ble_eq_true rfl⟩ rfl rfl hl.1 (lv_room (Nat.le_of_ble_eq_true rfl)) dX5_copy_137 rfl (fun H locs hW => ?_) ⟨Nat.zero_le _, Nat.zero_le _⟩
              obtain ⟨M3, eM3⟩ : ∃ z_, z_ = menE M2 := ⟨_, rfl⟩
              rw [← eM3] at hW
              rw [eM3, eM2, eM1] at hW
              exact hE hW (by rw [eM2, eM1]) dX5_copy_140
            · exact absurd h103 hw2
          · exact absurd h64 (by omega)
        | succ k ih =>
          intro j hk H locs ls hW hl
          refine lv_iload_n hx hb dX5_copy_59 rfl (lv_at hl 3 rfl) ?_
          refine lv_aload_n hx hb dX5_copy_60 rfl (lv_at hl 0 rfl) ?_
          refine g12 (k := 21) (v := .int (mF M2 21)) hC hW (by decide) mF_X5_120 rfl dX5_copy_61 ?_
          refine z_top (y := nI sz) (by rw [eM2, eM1]; exact hsz) ?_
          refine zc_ge (i := j) (j := sz) (tgt := 91) hx hb rfl rfl (by omega) (by omega) dX5_copy_64 (by decide) (fun h64 => ?_) (fun h64 => ?_)
          · exact absurd h64 (by omega)
          · refine lv_aload_n hx hb dX5_copy_67 rfl (lv_at hl 0 rfl) ?_
            refine lv_iconst (v := 0) hx hb dX5_copy_68 (by decide) ?_
            refine lv_iconst (v := 2) hx hb dX5_copy_69 (by decide) ?_
            refine lv_aload_n hx hb dX5_copy_70 rfl (lv_at hl 0 rfl) ?_
            refine g12 (k := 22) (v := .int (mF M2 22)) hC hW (by decide) mF_X5_123 rfl dX5_copy_71 ?_
            refine lv_iload_n hx hb dX5_copy_74 rfl (lv_at hl 3 rfl) ?_
            refine lv_aload_n hx hb dX5_copy_75 rfl (lv_at hl 0 rfl) ?_
            refine g12 (k := 23) (v := .int (mF M2 23)) hC hW (by decide) mF_X5_126 rfl dX5_copy_76 ?_
            refine lv_imul hx hb dX5_copy_79 ?_
            refine lv_iadd hx hb dX5_copy_80 ?_
            refine lv_iconst (v := 0) hx hb dX5_copy_81 (by decide) ?_
            refine z_callV (As := [.int 0, .int 2, .int ((mF M2 22) + ((nI j) * (mF M2 23))), .int 0]) (rest := []) (st1 := []) hC hW LL_12 rfl rfl rfl (c_X5_write_f l G C M2 (mm := 0) (by decide) hw2 2 ((mF M2 22) + ((nI j) * (mF M2 23))) 0) mw_X5_write mv_X5_write mM_X5_142 ⟨Nat.le_of_ble_eq_true rfl, Nat.le_of_ble_eq_true rfl⟩ rfl rfl hl.1 (lv_room (Nat.le_of_ble_eq_true rfl)) dX5_copy_82 rfl (fun H locs hW => ?_) ⟨Nat.zero_le _, Nat.zero_le _⟩
            refine lv_iinc (k := 3) (v := nI (j + 1)) (lv' := [(3, .int (nI (j + 1))), (0, .ref (zad G 12 0)), (1, .int (nI t)), (2, .int (nI e0))]) hx hb dX5_copy_85 hl rfl (nI_inc _) (by decide) rfl (fun ls hl => ?_)
            refine lv_goto (tgt := 59) hx hb dX5_copy_88 (by decide) ?_
            exact ih (j + 1) (by omega) _ _ _ hW (lv_sub hl [1, 2, 3, 0] rfl)
      exact lp sz 0 (by omega) _ _ _ hW (lv_sub hl [2, 3, 1, 0] rfl)
    · exact absurd h14 (by omega)
  · exact absurd (not_bad h12 ht) h5

set_option maxHeartbeats 4000000 in
set_option maxRecDepth 100000 in
theorem m_copy_s (l : Launch) (G : GG) (C : CS) (M : MS) {n : Nat} (h12 : n ≤ 12) (hn : mF M 0 = nI n) {t : Nat} (ht : t < n) {sz nm e0 h : Nat} (hs1 : 1 ≤ sz) (hs30 : sz ≤ 30) (hsz : mF M 21 = nI sz) (he : mA M 2 t = nI e0) (hh : mA M 1 t = nI h) (hh32 : h < 32) (hnm : mF M 20 = nI nm) (hnm3 : nm < 1000) (he1 : e0 ≤ 100) {d : Nat} (hN : mdC M h = some d) : Ct l G yX5_copy cX5_copy 4 (some .int) 3 67 [.ref (zad G 12 0), .int (nI t)] C M (some (.int (menR (mcpD M t e0 nm sz (mF M 22) (mF M 23) h d) (nI e0)))) C (menE (mcpD M t e0 nm sz (mF M 22) (mF M 23) h d)) := by
  refine Ct_i (by decide) (Nat.le_of_ble_eq_true rfl) (fun {p e s m args below meth c A Q ls} hC hW hl hE => ?_)
  have hx := hC.1
  have hb := hC.2.1
  have hl : lv_has ls 4 [(0, .ref (zad G 12 0)), (1, .int (nI t))] := hl
  refine lv_aload_n hx hb dX5_copy_0 rfl (lv_at hl 0 rfl) ?_
  refine lv_iload_n hx hb dX5_copy_1 rfl (lv_at hl 1 rfl) ?_
  refine z_callV (As := [.int (nI t)]) (rest := []) (st1 := [.int (bI (¬ badT n (nI t)))]) hC hW LL_12 rfl rfl rfl (c_X5_isTape l G C M h12 hn (nI t)) mw_X5_isTape mv_X5_isTape mM_X5_129 ⟨Nat.le_of_ble_eq_true rfl, Nat.le_of_ble_eq_true rfl⟩ rfl rfl hl.1 (lv_room (Nat.le_of_ble_eq_true rfl)) dX5_copy_2 rfl (fun H locs hW => ?_) ⟨Nat.zero_le _, Nat.zero_le _⟩
  refine zb_ne (tgt := 10) hx hb (¬ badT n (nI t)) rfl dX5_copy_5 (by decide) (fun h5 => ?_) (fun h5 => ?_)
  · refine lv_aload_n hx hb dX5_copy_10 rfl (lv_at hl 0 rfl) ?_
    refine g12 (k := 21) (v := .int (mF M 21)) hC hW (by decide) mF_X5_120 rfl dX5_copy_11 ?_
    refine z_top (y := nI sz) (hsz) ?_
    refine zf_ne (i := sz) (tgt := 20) hx hb rfl (by omega) dX5_copy_14 (by decide) (fun h14 => ?_) (fun h14 => ?_)
    · refine lv_aload_n hx hb dX5_copy_20 rfl (lv_at hl 0 rfl) ?_
      refine z_callV (As := []) (rest := []) (st1 := []) hC hW LL_12 rfl rfl rfl (c_X5_begin l G C M) mw_X5_begin mv_X5_begin mM_X5_132 ⟨Nat.le_of_ble_eq_true rfl, Nat.le_of_ble_eq_true rfl⟩ rfl rfl hl.1 (lv_room (Nat.le_of_ble_eq_true rfl)) dX5_copy_21 rfl (fun H locs hW => ?_) ⟨Nat.zero_le _, Nat.zero_le _⟩
      obtain ⟨M1, eM1⟩ : ∃ z_, z_ = mbeg M := ⟨_, rfl⟩
      rw [← eM1] at hW
      refine lv_aload_n hx hb dX5_copy_24 rfl (lv_at hl 0 rfl) ?_
      refine lv_iconst (v := 0) hx hb dX5_copy_25 (by decide) ?_
      refine lv_iload_n hx hb dX5_copy_26 rfl (lv_at hl 1 rfl) ?_
      refine z_callV (As := [.int 0, .int (nI t)]) (rest := []) (st1 := []) hC hW LL_12 rfl rfl rfl (c_mount_s l G C M1 (mm := 0) (by decide) (by rw [eM1]; rfl) (t := t) (h := h) (by omega) (by rw [eM1]; exact hh) hh32 (by rw [eM1]; exact hN)) mw_X5_mount mv_X5_mount mM_X5_135 ⟨Nat.le_of_ble_eq_true rfl, Nat.le_of_ble_eq_true rfl⟩ rfl rfl hl.1 (lv_room (Nat.le_of_ble_eq_true rfl)) dX5_copy_27 rfl (fun H locs hW => ?_) ⟨Nat.zero_le _, Nat.zero_le _⟩
      obtain ⟨M2, eM2⟩ : ∃ z_, z_ = moD M1 0 t h d := ⟨_, rfl⟩
      rw [← eM2] at hW
      have hJ2 : Jm M2 0 d t 0 := by rw [eM2]; exact J_mo (by omega) (md_some hN).1
      have hF2 : ∀ f, f ≠ 25 ∧ f ≠ 29 ∧ f ≠ 30 → mF M2 f = mF (mbeg M) f := fun f hf => by rw [eM2, moD_F hf, eM1]
      have he2 : mA M2 2 t = nI e0 := by rw [eM2, moD_A (by decide) (Or.inl (by decide)), eM1]; exact he
      refine lv_aload_n hx hb dX5_copy_30 rfl (lv_at hl 0 rfl) ?_
      refine g12 (k := 2) (v := .ref (zad G 13 2)) hC hW (by decide) mF_X5_13 rfl dX5_copy_31 ?_
      refine lv_iload_n hx hb dX5_copy_34 rfl (lv_at hl 1 rfl) ?_
      refine am (i := t) (n := 12) hC hW (by decide) rfl rfl (rfl) (by omega) dX5_copy_35 ?_
      refine z_top (y := nI e0) he2 ?_
      refine lv_istore_n (lv' := [(2, .int (nI e0)), (0, .ref (zad G 12 0)), (1, .int (nI t))]) hx hb dX5_copy_36 rfl hl (by decide) rfl (fun ls hl => ?_)
      refine lv_aload_n hx hb dX5_copy_37 rfl (lv_at hl 1 rfl) ?_
      refine lv_iconst (v := 0) hx hb dX5_copy_38 (by decide) ?_
      refine lv_iload_n hx hb dX5_copy_39 rfl (lv_at hl 0 rfl) ?_
      refine z_callV (As := [.int 0, .int (nI e0)]) (rest := []) (st1 := []) hC hW LL_12 rfl rfl rfl (c_wind l G C M2 (mm := 0) (by decide) hJ2 (pp := e0) (Nat.zero_le _) (by omega)) mw_X5_wind mv_X5_wind mM_X5_139 ⟨Nat.le_of_ble_eq_true rfl, Nat.le_of_ble_eq_true rfl⟩ rfl rfl hl.1 (lv_room (Nat.le_of_ble_eq_true rfl)) dX5_copy_40 rfl (fun H locs hW => ?_) ⟨Nat.zero_le _, Nat.zero_le _⟩
      obtain ⟨M3, eM3⟩ : ∃ z_, z_ = mwin M2 0 0 e0 := ⟨_, rfl⟩
      rw [← eM3] at hW
      have hJ3 : Jm M3 0 d t e0 := by rw [eM3]; exact J_mwin (Nat.zero_le _) (by omega) hJ2
      have hF3 : ∀ f, f ≠ 25 ∧ f ≠ 29 ∧ f ≠ 30 → mF M3 f = mF (mbeg M) f := fun f hf => by rw [eM3, mwin_F hf]; exact hF2 f hf
      have he3 : mA M3 2 t = nI e0 := by rw [eM3, mwin_A (by decide)]; exact he2
      have hE3 : En M3 t e0 := ⟨nat_of he3 (by omega), by rw [mN_of he3 (by omega)]; exact he1, fun _ => mN_of he3 (by omega)⟩
      refine lv_aload_n hx hb dX5_copy_43 rfl (lv_at hl 1 rfl) ?_
      refine lv_iconst (v := 0) hx hb dX5_copy_44 (by decide) ?_
      refine lv_iconst (v := 1) hx hb dX5_copy_45 (by decide) ?_
      refine lv_aload_n hx hb dX5_copy_46 rfl (lv_at hl 1 rfl) ?_
      refine g12 (k := 20) (v := .int (mF M3 20)) hC hW (by decide) mF_X5_117 rfl dX5_copy_47 ?_
      refine z_top (y := nI nm) ((hF3 20 (by decide)).trans hnm) ?_
      refine lv_aload_n hx hb dX5_copy_50 rfl (lv_at hl 1 rfl) ?_
      refine g12 (k := 21) (v := .int (mF M3 21)) hC hW (by decide) mF_X5_120 rfl dX5_copy_51 ?_
      refine z_top (y := nI sz) ((hF3 21 (by decide)).trans hsz) ?_
      refine z_callV (As := [.int 0, .int 1, .int (nI nm), .int (nI sz)]) (rest := []) (st1 := []) hC hW LL_12 rfl rfl rfl (c_write l G C M3 (mm := 0) (by decide) hJ3 1 (nI nm) (nI sz)) mw_X5_write mv_X5_write mM_X5_142 ⟨Nat.le_of_ble_eq_true rfl, Nat.le_of_ble_eq_true rfl⟩ rfl rfl hl.1 (lv_room (Nat.le_of_ble_eq_true rfl)) dX5_copy_54 rfl (fun H locs hW => ?_) ⟨Nat.zero_le _, Nat.zero_le _⟩
      obtain ⟨M4, eM4⟩ : ∃ z_, z_ = mwr1 M3 0 d t e0 1 (nI nm) (nI sz) := ⟨_, rfl⟩
      rw [← eM4] at hW
      have hJ4 : Jm M4 0 d t (e0 + 1) := by rw [eM4]; exact J_wr1 hJ3
      have hE4 : En M4 t (e0 + 1) := by rw [eM4]; exact En_wr1 hE3 hJ3
      have hF4 : ∀ f, f ≠ 25 ∧ f ≠ 29 ∧ f ≠ 30 → mF M4 f = mF (mbeg M) f := fun f hf => by rw [eM4, mwr1_F hf]; exact hF3 f hf
      refine lv_iconst (v := 0) hx hb dX5_copy_57 (by decide) ?_
      refine lv_istore_n (lv' := [(3, .int 0), (2, .int (nI e0)), (0, .ref (zad G 12 0)), (1, .int (nI t))]) hx hb dX5_copy_58 rfl hl (by decide) rfl (fun ls hl => ?_)
      have lp : ∀ (k : Nat) (j : Nat) (Mj : MS), j + k = sz → Jm Mj 0 d t (e0 + 1 + j) → En Mj t (e0 + 1 + j) → (∀ f, f ≠ 25 ∧ f ≠ 29 ∧ f ≠ 30 → mF Mj f = mF (mbeg M) f) → mcpL d t (mF M 22) (mF M 23) k j (e0 + 1 + j) Mj = mcpL d t (mF M 22) (mF M 23) sz 0 (e0 + 1) M4 → ∀ (H : Heap) (locs : List Loc) (ls : Array Slot), Wd G s A s.heap H locs C Mj → lv_has ls 4 [(0, .ref (zad G 12 0)), (1, .int (nI t)), (2, .int (nI e0)), (3, .int (nI j))] → W p l e { frames := 3, cells := 0, slots := 0, locals := 67 } s m args below meth c H locs 0 0 Q (F0 m 59 ls []) := by
        intro k
        induction k with
        | zero =>
          intro j Mj hk hJj hEj hFj hD H locs ls hW hl
          have hjz : j = sz := by omega
          have hJz : Jm Mj 0 d t (e0 + 1 + sz) := by rw [← hjz]; exact hJj
          have hEz : En Mj t (e0 + 1 + sz) := by rw [← hjz]; exact hEj
          refine lv_iload_n hx hb dX5_copy_59 rfl (lv_at hl 3 rfl) ?_
          refine lv_aload_n hx hb dX5_copy_60 rfl (lv_at hl 0 rfl) ?_
          refine g12 (k := 21) (v := .int (mF Mj 21)) hC hW (by decide) mF_X5_120 rfl dX5_copy_61 ?_
          refine z_top (y := nI sz) ((hFj 21 (by decide)).trans hsz) ?_
          refine zc_ge (i := j) (j := sz) (tgt := 91) hx hb rfl rfl (by omega) (by omega) dX5_copy_64 (by decide) (fun h64 => ?_) (fun h64 => ?_)
          · refine lv_aload_n hx hb dX5_copy_91 rfl (lv_at hl 0 rfl) ?_
            refine lv_iconst (v := 0) hx hb dX5_copy_92 (by decide) ?_
            refine lv_iconst (v := 3) hx hb dX5_copy_93 (by decide) ?_
            refine lv_iconst (v := 0) hx hb dX5_copy_94 (by decide) ?_
            refine lv_iconst (v := 0) hx hb dX5_copy_95 (by decide) ?_
            refine z_callV (As := [.int 0, .int 3, .int 0, .int 0]) (rest := []) (st1 := []) hC hW LL_12 rfl rfl rfl (c_write l G C Mj (mm := 0) (by decide) hJz 3 0 0) mw_X5_write mv_X5_write mM_X5_142 ⟨Nat.le_of_ble_eq_true rfl, Nat.le_of_ble_eq_true rfl⟩ rfl rfl hl.1 (lv_room (Nat.le_of_ble_eq_true rfl)) dX5_copy_96 rfl (fun H locs hW => ?_) ⟨Nat.zero_le _, Nat.zero_le _⟩
            obtain ⟨M5, eM5⟩ : ∃ z_, z_ = mwr1 Mj 0 d t (e0 + 1 + sz) 3 0 0 := ⟨_, rfl⟩
            rw [← eM5] at hW
            have hJy : Jm M5 0 d t (e0 + 1 + sz + 1) := by rw [eM5]; exact J_wr1 hJz
            have hEy : En M5 t (e0 + 1 + sz + 1) := by rw [eM5]; exact En_wr1 hEz hJz
            have hFz : ∀ f, f ≠ 25 ∧ f ≠ 29 ∧ f ≠ 30 → mF M5 f = mF (mbeg M) f := fun f hf => by rw [eM5, mwr1_F hf]; exact hFj f hf
            have hWy : M5 = mcpW M2 d t e0 nm sz (mF M 22) (mF M 23) := by rw [eM5]; unfold mcpW mcpH; rw [← eM3, ← eM4, ← hD, hjz]; rfl
            refine lv_aload_n hx hb dX5_copy_99 rfl (lv_at hl 0 rfl) ?_
            refine g12 (k := 30) (v := .int (mF M5 30)) hC hW (by decide) mF_X5_82 rfl dX5_copy_100 ?_
            refine lv_if_ne (tgt := 124) hx hb dX5_copy_103 (by decide) (fun h103 => ?_) (fun h103 => ?_)
            · have hK : M5 = mcpK M5 t nm e0 := by unfold mcpK; rw [if_neg h103]
              have hkp : Kp M5 M5 0 := Kp.rf
              have hJk := hkp.J hJy
              have hEk : mA M5 2 t = nI (mN M5 2 t) ∧ mN M5 2 t ≤ 100 := ⟨hEy.1, hEy.2.1⟩
              refine lv_aload_n hx hb dX5_copy_124 rfl (lv_at hl 0 rfl) ?_
              refine lv_iconst (v := 0) hx hb dX5_copy_125 (by decide) ?_
              refine lv_iload_n hx hb dX5_copy_126 rfl (lv_at hl 2 rfl) ?_
              refine z_callV (As := [.int 0, .int (nI e0)]) (rest := []) (st1 := []) hC hW LL_12 rfl rfl rfl (c_close l G C M5 (mm := 0) (by decide) hJk.1 hJk.2.1 hJk.2.2.1 hJk.2.2.2.1 hEk.1 hEk.2 (b := e0) he1) mw_X5_close mv_X5_close mM_X5_146 ⟨Nat.le_of_ble_eq_true rfl, Nat.le_of_ble_eq_true rfl⟩ rfl rfl hl.1 (lv_room (Nat.le_of_ble_eq_true rfl)) dX5_copy_127 rfl (fun H locs hW => ?_) ⟨Nat.zero_le _, Nat.zero_le _⟩
              obtain ⟨M6, eM6⟩ : ∃ z_, z_ = mclM M5 0 d t e0 := ⟨_, rfl⟩
              rw [← eM6] at hW
              have hU : Un M6 0 d t := by rw [eM6]; exact U_clo hEk.1 hEk.2 hJk.U
              refine lv_aload_n hx hb dX5_copy_130 rfl (lv_at hl 0 rfl) ?_
              refine lv_iconst (v := 0) hx hb dX5_copy_131 (by decide) ?_
              refine z_callV (As := [.int 0]) (rest := []) (st1 := []) hC hW LL_12 rfl rfl rfl (c_unmount l G C M6 (mm := 0) (by decide) hU) mw_X5_unmount mv_X5_unmount mM_X5_149 ⟨Nat.le_of_ble_eq_true rfl, Nat.le_of_ble_eq_true rfl⟩ rfl rfl hl.1 (lv_room (Nat.le_of_ble_eq_true rfl)) dX5_copy_132 rfl (fun H locs hW => ?_) ⟨Nat.zero_le _, Nat.zero_le _⟩
              obtain ⟨M7, eM7⟩ : ∃ z_, z_ = munM M6 0 d t := ⟨_, rfl⟩
              rw [← eM7] at hW
              refine lv_aload_n hx hb dX5_copy_135 rfl (lv_at hl 0 rfl) ?_
              refine lv_iload_n hx hb dX5_copy_136 rfl (lv_at hl 2 rfl) ?_
              refine z_callV (As := [.int (nI e0)]) (rest := []) (st1 := [.int (menR M7 (nI e0))]) hC hW LL_12 rfl rfl rfl (c_X5_ended l G C M7 (nI e0)) mw_X5_ended mv_X5_ended mM_X5_153 ⟨Nat.le_of_ble_eq_true rfl, Nat.le_of_ble_eq_true rfl⟩ rfl rfl hl.1 (lv_room (Nat.le_of_ble_eq_true rfl)) dX5_copy_137 rfl (fun H locs hW => ?_) ⟨Nat.zero_le _, Nat.zero_le _⟩
              obtain ⟨M8, eM8⟩ : ∃ z_, z_ = menE M7 := ⟨_, rfl⟩
              rw [← eM8] at hW
              have hD9 : mcpD M t e0 nm sz (mF M 22) (mF M 23) h d = M7 := by unfold mcpD mcpU; rw [← eM1, ← eM2, ← hWy, ← hK, ← eM6, eM7]
              rw [eM8] at hW
              rw [hD9] at hE
              exact hE hW rfl dX5_copy_140
            · refine lv_aload_n hx hb dX5_copy_106 rfl (lv_at hl 0 rfl) ?_
              refine g12 (k := 9) (v := .ref (zad G 13 9)) hC hW (by decide) mF_X5_35 rfl dX5_copy_107 ?_
              refine lv_sipush (v := 1000) hx hb dX5_copy_110 (by decide) ?_
              refine lv_iload_n hx hb dX5_copy_113 rfl (lv_at hl 1 rfl) ?_
              refine zi_mul (i := 1000) (j := t) hx hb rfl rfl dX5_copy_114 ?_
              refine lv_aload_n hx hb dX5_copy_115 rfl (lv_at hl 0 rfl) ?_
              refine g12 (k := 20) (v := .int (mF M5 20)) hC hW (by decide) mF_X5_117 rfl dX5_copy_116 ?_
              refine z_top (y := nI nm) ((hFz 20 (by decide)).trans hnm) ?_
              refine zi_add (i := 1000 * t) (j := nm) hx hb rfl rfl dX5_copy_119 ?_
              refine lv_iload_n hx hb dX5_copy_120 rfl (lv_at hl 2 rfl) ?_
              refine lv_iconst (v := 1) hx hb dX5_copy_121 (by decide) ?_
              refine zi_add (i := e0) (j := 1) hx hb rfl rfl dX5_copy_122 ?_
              refine sm (i := 1000 * t + nm) (n := 12000) (v := nI (e0 + 1)) hC hW (by decide) rfl rfl (rfl) (by omega) dX5_copy_123 (fun _ eS H locs hW => ?_)
              subst eS
              have hK : smA M5 9 (1000 * t + nm) (nI (e0 + 1)) = mcpK M5 t nm e0 := by unfold mcpK; rw [if_pos h103]
              have hkp : Kp M5 (smA M5 9 (1000 * t + nm) (nI (e0 + 1))) 0 := Kp_A (Or.inl (by decide))
              have hJk := hkp.J hJy
              have hEk : mA (smA M5 9 (1000 * t + nm) (nI (e0 + 1))) 2 t = nI (mN (smA M5 9 (1000 * t + nm) (nI (e0 + 1))) 2 t) ∧ mN (smA M5 9 (1000 * t + nm) (nI (e0 + 1))) 2 t ≤ 100 := ⟨(by unfold mN; rw [mA_nj (by decide)]; exact hEy.1), (by unfold mN; rw [mA_nj (by decide)]; exact hEy.2.1)⟩
              refine lv_aload_n hx hb dX5_copy_124 rfl (lv_at hl 0 rfl) ?_
              refine lv_iconst (v := 0) hx hb dX5_copy_125 (by decide) ?_
              refine lv_iload_n hx hb dX5_copy_126 rfl (lv_at hl 2 rfl) ?_
              refine z_callV (As := [.int 0, .int (nI e0)]) (rest := []) (st1 := []) hC hW LL_12 rfl rfl rfl (c_close l G C (smA M5 9 (1000 * t + nm) (nI (e0 + 1))) (mm := 0) (by decide) hJk.1 hJk.2.1 hJk.2.2.1 hJk.2.2.2.1 hEk.1 hEk.2 (b := e0) he1) mw_X5_close mv_X5_close mM_X5_146 ⟨Nat.le_of_ble_eq_true rfl, Nat.le_of_ble_eq_true rfl⟩ rfl rfl hl.1 (lv_room (Nat.le_of_ble_eq_true rfl)) dX5_copy_127 rfl (fun H locs hW => ?_) ⟨Nat.zero_le _, Nat.zero_le _⟩
              obtain ⟨M9, eM9⟩ : ∃ z_, z_ = mclM (smA M5 9 (1000 * t + nm) (nI (e0 + 1))) 0 d t e0 := ⟨_, rfl⟩
              rw [← eM9] at hW
              have hU : Un M9 0 d t := by rw [eM9]; exact U_clo hEk.1 hEk.2 hJk.U
              refine lv_aload_n hx hb dX5_copy_130 rfl (lv_at hl 0 rfl) ?_
              refine lv_iconst (v := 0) hx hb dX5_copy_131 (by decide) ?_
              refine z_callV (As := [.int 0]) (rest := []) (st1 := []) hC hW LL_12 rfl rfl rfl (c_unmount l G C M9 (mm := 0) (by decide) hU) mw_X5_unmount mv_X5_unmount mM_X5_149 ⟨Nat.le_of_ble_eq_true rfl, Nat.le_of_ble_eq_true rfl⟩ rfl rfl hl.1 (lv_room (Nat.le_of_ble_eq_true rfl)) dX5_copy_132 rfl (fun H locs hW => ?_) ⟨Nat.zero_le _, Nat.zero_le _⟩
              obtain ⟨M10, eM10⟩ : ∃ z_, z_ = munM M9 0 d t := ⟨_, rfl⟩
              rw [← eM10] at hW
              refine lv_aload_n hx hb dX5_copy_135 rfl (lv_at hl 0 rfl) ?_
              refine lv_iload_n hx hb dX5_copy_136 rfl (lv_at hl 2 rfl) ?_
              refine z_callV (As := [.int (nI e0)]) (rest := []) (st1 := [.int (menR M10 (nI e0))]) hC hW LL_12 rfl rfl rfl (c_X5_ended l G C M10 (nI e0)) mw_X5_ended mv_X5_ended mM_X5_153 ⟨Nat.le_of_ble_eq_true rfl, Nat.le_of_ble_eq_true rfl⟩ rfl rfl hl.1 (lv_room (Nat.le_of_ble_eq_true rfl)) dX5_copy_137 rfl (fun H locs hW => ?_) ⟨Nat.zero_le _, Nat.zero_le _⟩
              obtain ⟨M11, eM11⟩ : ∃ z_, z_ = menE M10 := ⟨_, rfl⟩
              rw [← eM11] at hW
              have hD9 : mcpD M t e0 nm sz (mF M 22) (mF M 23) h d = M10 := by unfold mcpD mcpU; rw [← eM1, ← eM2, ← hWy, ← hK, ← eM9, eM10]
              rw [eM11] at hW
              rw [hD9] at hE
              exact hE hW rfl dX5_copy_140
          · exact absurd h64 (by omega)
        | succ k ih =>
          intro j Mj hk hJj hEj hFj hD H locs ls hW hl
          refine lv_iload_n hx hb dX5_copy_59 rfl (lv_at hl 3 rfl) ?_
          refine lv_aload_n hx hb dX5_copy_60 rfl (lv_at hl 0 rfl) ?_
          refine g12 (k := 21) (v := .int (mF Mj 21)) hC hW (by decide) mF_X5_120 rfl dX5_copy_61 ?_
          refine z_top (y := nI sz) ((hFj 21 (by decide)).trans hsz) ?_
          refine zc_ge (i := j) (j := sz) (tgt := 91) hx hb rfl rfl (by omega) (by omega) dX5_copy_64 (by decide) (fun h64 => ?_) (fun h64 => ?_)
          · exact absurd h64 (by omega)
          · refine lv_aload_n hx hb dX5_copy_67 rfl (lv_at hl 0 rfl) ?_
            refine lv_iconst (v := 0) hx hb dX5_copy_68 (by decide) ?_
            refine lv_iconst (v := 2) hx hb dX5_copy_69 (by decide) ?_
            refine lv_aload_n hx hb dX5_copy_70 rfl (lv_at hl 0 rfl) ?_
            refine g12 (k := 22) (v := .int (mF Mj 22)) hC hW (by decide) mF_X5_123 rfl dX5_copy_71 ?_
            refine z_top (y := mF M 22) ((hFj 22 (by decide)).trans rfl) ?_
            refine lv_iload_n hx hb dX5_copy_74 rfl (lv_at hl 3 rfl) ?_
            refine lv_aload_n hx hb dX5_copy_75 rfl (lv_at hl 0 rfl) ?_
            refine g12 (k := 23) (v := .int (mF Mj 23)) hC hW (by decide) mF_X5_126 rfl dX5_copy_76 ?_
            refine z_top (y := mF M 23) ((hFj 23 (by decide)).trans rfl) ?_
            refine lv_imul hx hb dX5_copy_79 ?_
            refine lv_iadd hx hb dX5_copy_80 ?_
            refine lv_iconst (v := 0) hx hb dX5_copy_81 (by decide) ?_
            refine z_callV (As := [.int 0, .int 2, .int ((mF M 22) + ((nI j) * (mF M 23))), .int 0]) (rest := []) (st1 := []) hC hW LL_12 rfl rfl rfl (c_write l G C Mj (mm := 0) (by decide) hJj 2 ((mF M 22) + ((nI j) * (mF M 23))) 0) mw_X5_write mv_X5_write mM_X5_142 ⟨Nat.le_of_ble_eq_true rfl, Nat.le_of_ble_eq_true rfl⟩ rfl rfl hl.1 (lv_room (Nat.le_of_ble_eq_true rfl)) dX5_copy_82 rfl (fun H locs hW => ?_) ⟨Nat.zero_le _, Nat.zero_le _⟩
            obtain ⟨M12, eM12⟩ : ∃ z_, z_ = mwr1 Mj 0 d t (e0 + 1 + j) 2 ((mF M 22) + ((nI j) * (mF M 23))) 0 := ⟨_, rfl⟩
            rw [← eM12] at hW
            refine lv_iinc (k := 3) (v := nI (j + 1)) (lv' := [(3, .int (nI (j + 1))), (0, .ref (zad G 12 0)), (1, .int (nI t)), (2, .int (nI e0))]) hx hb dX5_copy_85 hl rfl (nI_inc _) (by decide) rfl (fun ls hl => ?_)
            refine lv_goto (tgt := 59) hx hb dX5_copy_88 (by decide) ?_
            exact ih (j + 1) M12 (by omega) (by rw [eM12]; exact J_wr1 hJj) (by rw [eM12]; exact En_wr1 hEj hJj) (fun f hf => by rw [eM12, mwr1_F hf]; exact hFj f hf) (by rw [← hD, mcpL, eM12]; rfl) _ _ _ hW (lv_sub hl [1, 2, 3, 0] rfl)
      exact lp sz 0 M4 (by omega) hJ4 hE4 hF4 rfl _ _ _ hW (lv_sub hl [2, 3, 1, 0] rfl)
    · exact absurd h14 (by omega)
  · exact absurd (not_bad h12 ht) h5

set_option maxHeartbeats 4000000 in
set_option maxRecDepth 100000 in
theorem m_rf_n (l : Launch) (G : GG) (C : CS) (M : MS) {t nm pp z h : Nat} (ht : t < 12) (hnm : nm < 1000) (hk9 : mA M 9 (1000 * t + nm) = nI (pp + 1)) (hz : mA M 7 (100 * t + pp) = nI z) (hpz : pp + z + 2 ≤ 100) (hh : mA M 1 t = nI h) (hh32 : h < 32) (hN : mdC M h = none) : Ct l G yX5_readFile cX5_readFile 7 (some .int) 3 65 [.ref (zad G 12 0), .int (nI nm), .int (nI t)] C M (some (.int (menR (mrfN M) (nI z)))) C (menE (mrfN M)) := by
  refine Ct_i (by decide) (Nat.le_of_ble_eq_true rfl) (fun {p e s m args below meth c A Q ls} hC hW hl hE => ?_)
  have hx := hC.1
  have hb := hC.2.1
  have hl : lv_has ls 7 [(0, .ref (zad G 12 0)), (1, .int (nI nm)), (2, .int (nI t))] := hl
  refine lv_aload_n hx hb dX5_readFile_0 rfl (lv_at hl 0 rfl) ?_
  refine z_callV (As := []) (rest := []) (st1 := []) hC hW LL_12 rfl rfl rfl (c_X5_begin l G C M) mw_X5_begin mv_X5_begin mM_X5_132 ⟨Nat.le_of_ble_eq_true rfl, Nat.le_of_ble_eq_true rfl⟩ rfl rfl hl.1 (lv_room (Nat.le_of_ble_eq_true rfl)) dX5_readFile_1 rfl (fun H locs hW => ?_) ⟨Nat.zero_le _, Nat.zero_le _⟩
  obtain ⟨M1, eM1⟩ : ∃ z_, z_ = mbeg M := ⟨_, rfl⟩
  rw [← eM1] at hW
  refine lv_aload_n hx hb dX5_readFile_4 rfl (lv_at hl 0 rfl) ?_
  refine lv_iconst (v := 0) hx hb dX5_readFile_5 (by decide) ?_
  refine lv_iload_n hx hb dX5_readFile_6 rfl (lv_at hl 2 rfl) ?_
  refine z_callV (As := [.int 0, .int (nI t)]) (rest := []) (st1 := []) hC hW LL_12 rfl rfl rfl (c_mount_n l G C M1 (mm := 0) (by decide) (by rw [eM1]; rfl) (t := t) (h := h) (by omega) (by rw [eM1]; exact hh) hh32 (by rw [eM1]; exact hN)) mw_X5_mount mv_X5_mount mM_X5_135 ⟨Nat.le_of_ble_eq_true rfl, Nat.le_of_ble_eq_true rfl⟩ rfl rfl hl.1 (lv_room (Nat.le_of_ble_eq_true rfl)) dX5_readFile_7 rfl (fun H locs hW => ?_) ⟨Nat.zero_le _, Nat.zero_le _⟩
  obtain ⟨M2, eM2⟩ : ∃ z_, z_ = moN M1 0 := ⟨_, rfl⟩
  rw [← eM2] at hW
  have hw2 : mF M2 30 ≠ 0 := by rw [eM2]; exact (show ¬ ((-3 : Int32) = 0) by decide)
  have hA2 : mA M2 = mA (smA (mo0 M 0) 15 0 (-1)) := by rw [eM2, eM1]; rfl
  refine lv_aload_n hx hb dX5_readFile_10 rfl (lv_at hl 0 rfl) ?_
  refine g12 (k := 9) (v := .ref (zad G 13 9)) hC hW (by decide) mF_X5_35 rfl dX5_readFile_11 ?_
  refine lv_sipush (v := 1000) hx hb dX5_readFile_14 (by decide) ?_
  refine lv_iload_n hx hb dX5_readFile_17 rfl (lv_at hl 2 rfl) ?_
  refine zi_mul (i := 1000) (j := t) hx hb rfl rfl dX5_readFile_18 ?_
  refine lv_iload_n hx hb dX5_readFile_19 rfl (lv_at hl 1 rfl) ?_
  refine zi_add (i := 1000 * t) (j := nm) hx hb rfl rfl dX5_readFile_20 ?_
  refine am (i := 1000 * t + nm) (n := 12000) hC hW (by decide) rfl rfl (rfl) (by omega) dX5_readFile_21 ?_
  refine z_top (y := nI (pp + 1)) (by rw [hA2, mA_nj (by decide), mo0_A (by decide)]; exact hk9) ?_
  refine lv_iconst (v := 1) hx hb dX5_readFile_22 (by decide) ?_
  refine zi_sub (i := pp + 1) (j := 1) hx hb rfl rfl (by omega) dX5_readFile_23 ?_
  refine z_top (y := nI pp) (by rw [show pp + 1 - 1 = pp by omega]) ?_
  refine lv_istore_n (lv' := [(3, .int (nI pp)), (0, .ref (zad G 12 0)), (1, .int (nI nm)), (2, .int (nI t))]) hx hb dX5_readFile_24 rfl hl (by decide) rfl (fun ls hl => ?_)
  refine lv_aload_n hx hb dX5_readFile_25 rfl (lv_at hl 1 rfl) ?_
  refine g12 (k := 7) (v := .ref (zad G 13 7)) hC hW (by decide) mF_X5_28 rfl dX5_readFile_26 ?_
  refine lv_bipush (v := 100) hx hb dX5_readFile_29 (by decide) ?_
  refine lv_iload_n hx hb dX5_readFile_31 rfl (lv_at hl 3 rfl) ?_
  refine zi_mul (i := 100) (j := t) hx hb rfl rfl dX5_readFile_32 ?_
  refine lv_iload_n hx hb dX5_readFile_33 rfl (lv_at hl 0 rfl) ?_
  refine zi_add (i := 100 * t) (j := pp) hx hb rfl rfl dX5_readFile_34 ?_
  refine am (i := 100 * t + pp) (n := 1200) hC hW (by decide) rfl rfl (rfl) (by omega) dX5_readFile_35 ?_
  refine z_top (y := nI z) (by rw [hA2, mA_nj (by decide), mo0_A (by decide)]; exact hz) ?_
  refine lv_istore (lv' := [(4, .int (nI z)), (3, .int (nI pp)), (0, .ref (zad G 12 0)), (1, .int (nI nm)), (2, .int (nI t))]) hx hb dX5_readFile_36 hl (by decide) rfl (fun ls hl => ?_)
  refine lv_aload_n hx hb dX5_readFile_38 rfl (lv_at hl 2 rfl) ?_
  refine lv_aload_n hx hb dX5_readFile_39 rfl (lv_at hl 2 rfl) ?_
  refine g12 (k := 30) (v := .int (mF M2 30)) hC hW (by decide) mF_X5_82 rfl dX5_readFile_40 ?_
  refine lv_if_ne (tgt := 50) hx hb dX5_readFile_43 (by decide) (fun h43 => ?_) (fun h43 => ?_)
  · refine lv_aload_n hx hb dX5_readFile_50 rfl (lv_at hl 2 rfl) ?_
    refine g12 (k := 24) (v := .int (mF M2 24)) hC hW (by decide) mF_X5_68 rfl dX5_readFile_51 ?_
    refine p12 (k := 24) (v := mF M2 24) hC hW (by decide) mF_X5_68 dX5_readFile_54 (fun _ eS H locs hW => ?_)
    subst eS
    have hw3 : mF (smF M2 24 (mF M2 24)) 30 ≠ 0 := hw2
    refine lv_aload_n hx hb dX5_readFile_57 rfl (lv_at hl 2 rfl) ?_
    refine lv_iconst (v := 0) hx hb dX5_readFile_58 (by decide) ?_
    refine lv_iload_n hx hb dX5_readFile_59 rfl (lv_at hl 1 rfl) ?_
    refine z_callV (As := [.int 0, .int (nI pp)]) (rest := []) (st1 := []) hC hW LL_12 rfl rfl rfl (c_X5_wind_f l G C (smF M2 24 (mF M2 24)) (mm := 0) (by decide) hw3 (nI pp)) mw_X5_wind mv_X5_wind mM_X5_139 ⟨Nat.le_of_ble_eq_true rfl, Nat.le_of_ble_eq_true rfl⟩ rfl rfl hl.1 (lv_room (Nat.le_of_ble_eq_true rfl)) dX5_readFile_60 rfl (fun H locs hW => ?_) ⟨Nat.zero_le _, Nat.zero_le _⟩
    refine lv_iconst (v := 0) hx hb dX5_readFile_63 (by decide) ?_
    refine lv_istore (lv' := [(5, .int 0), (4, .int (nI z)), (3, .int (nI pp)), (0, .ref (zad G 12 0)), (1, .int (nI nm)), (2, .int (nI t))]) hx hb dX5_readFile_64 hl (by decide) rfl (fun ls hl => ?_)
    refine lv_iload hx hb dX5_readFile_66 (lv_at hl 0 rfl) ?_
    refine lv_iload hx hb dX5_readFile_68 (lv_at hl 1 rfl) ?_
    refine lv_iconst (v := 2) hx hb dX5_readFile_70 (by decide) ?_
    refine zi_add (i := z) (j := 2) hx hb rfl rfl dX5_readFile_71 ?_
    refine zc_ge (i := 0) (j := z + 2) (tgt := 139) hx hb rfl rfl (by omega) (by omega) dX5_readFile_72 (by decide) (fun h72 => ?_) (fun h72 => ?_)
    · exact absurd h72 (by omega)
    · refine lv_aload_n hx hb dX5_readFile_75 rfl (lv_at hl 3 rfl) ?_
      refine g12 (k := 30) (v := .int (mF M2 30)) hC hW (by decide) mF_X5_82 rfl dX5_readFile_76 ?_
      refine lv_if_ne (tgt := 139) hx hb dX5_readFile_79 (by decide) (fun h79 => ?_) (fun h79 => ?_)
      · refine lv_aload_n hx hb dX5_readFile_139 rfl (lv_at hl 3 rfl) ?_
        refine lv_iconst (v := 0) hx hb dX5_readFile_140 (by decide) ?_
        refine z_callV (As := [.int 0]) (rest := []) (st1 := []) hC hW LL_12 rfl rfl rfl (c_X5_unmount_n l G C (smF M2 24 (mF M2 24)) (mm := 0) (by decide) (by show mA M2 15 0 = -1; rw [hA2, mA_self])) mw_X5_unmount mv_X5_unmount mM_X5_149 ⟨Nat.le_of_ble_eq_true rfl, Nat.le_of_ble_eq_true rfl⟩ rfl rfl hl.1 (lv_room (Nat.le_of_ble_eq_true rfl)) dX5_readFile_141 rfl (fun H locs hW => ?_) ⟨Nat.zero_le _, Nat.zero_le _⟩
        refine lv_aload_n hx hb dX5_readFile_144 rfl (lv_at hl 3 rfl) ?_
        refine lv_iload hx hb dX5_readFile_145 (lv_at hl 1 rfl) ?_
        refine z_callV (As := [.int (nI z)]) (rest := []) (st1 := [.int (menR (smF M2 24 (mF M2 24)) (nI z))]) hC hW LL_12 rfl rfl rfl (c_X5_ended l G C (smF M2 24 (mF M2 24)) (nI z)) mw_X5_ended mv_X5_ended mM_X5_153 ⟨Nat.le_of_ble_eq_true rfl, Nat.le_of_ble_eq_true rfl⟩ rfl rfl hl.1 (lv_room (Nat.le_of_ble_eq_true rfl)) dX5_readFile_147 rfl (fun H locs hW => ?_) ⟨Nat.zero_le _, Nat.zero_le _⟩
        obtain ⟨M3, eM3⟩ : ∃ z_, z_ = menE (smF M2 24 (mF M2 24)) := ⟨_, rfl⟩
        rw [← eM3] at hW
        have hD9 : mrfN M = smF M2 24 (mF M2 24) := by unfold mrfN mrf0; rw [← eM1, ← eM2, if_neg hw2]
        rw [eM3] at hW
        rw [hD9] at hE
        exact hE hW rfl dX5_readFile_150
      · exact absurd h79 hw3
  · exact absurd h43 hw2

set_option maxHeartbeats 4000000 in
set_option maxRecDepth 100000 in
theorem m_rf_s (l : Launch) (G : GG) (C : CS) (M : MS) {t nm pp z h : Nat} (ht : t < 12) (hnm : nm < 1000) (hk9 : mA M 9 (1000 * t + nm) = nI (pp + 1)) (hz : mA M 7 (100 * t + pp) = nI z) (hpz : pp + z + 2 ≤ 100) (hh : mA M 1 t = nI h) (hh32 : h < 32) {d : Nat} (hN : mdC M h = some d) : Ct l G yX5_readFile cX5_readFile 7 (some .int) 3 65 [.ref (zad G 12 0), .int (nI nm), .int (nI t)] C M (some (.int (menR (mrfD M t pp z h d) (nI z)))) C (menE (mrfD M t pp z h d)) := by
  refine Ct_i (by decide) (Nat.le_of_ble_eq_true rfl) (fun {p e s m args below meth c A Q ls} hC hW hl hE => ?_)
  have hx := hC.1
  have hb := hC.2.1
  have hl : lv_has ls 7 [(0, .ref (zad G 12 0)), (1, .int (nI nm)), (2, .int (nI t))] := hl
  refine lv_aload_n hx hb dX5_readFile_0 rfl (lv_at hl 0 rfl) ?_
  refine z_callV (As := []) (rest := []) (st1 := []) hC hW LL_12 rfl rfl rfl (c_X5_begin l G C M) mw_X5_begin mv_X5_begin mM_X5_132 ⟨Nat.le_of_ble_eq_true rfl, Nat.le_of_ble_eq_true rfl⟩ rfl rfl hl.1 (lv_room (Nat.le_of_ble_eq_true rfl)) dX5_readFile_1 rfl (fun H locs hW => ?_) ⟨Nat.zero_le _, Nat.zero_le _⟩
  obtain ⟨M1, eM1⟩ : ∃ z_, z_ = mbeg M := ⟨_, rfl⟩
  rw [← eM1] at hW
  refine lv_aload_n hx hb dX5_readFile_4 rfl (lv_at hl 0 rfl) ?_
  refine lv_iconst (v := 0) hx hb dX5_readFile_5 (by decide) ?_
  refine lv_iload_n hx hb dX5_readFile_6 rfl (lv_at hl 2 rfl) ?_
  refine z_callV (As := [.int 0, .int (nI t)]) (rest := []) (st1 := []) hC hW LL_12 rfl rfl rfl (c_mount_s l G C M1 (mm := 0) (by decide) (by rw [eM1]; rfl) (t := t) (h := h) ht (by rw [eM1]; exact hh) hh32 (by rw [eM1]; exact hN)) mw_X5_mount mv_X5_mount mM_X5_135 ⟨Nat.le_of_ble_eq_true rfl, Nat.le_of_ble_eq_true rfl⟩ rfl rfl hl.1 (lv_room (Nat.le_of_ble_eq_true rfl)) dX5_readFile_7 rfl (fun H locs hW => ?_) ⟨Nat.zero_le _, Nat.zero_le _⟩
  obtain ⟨M2, eM2⟩ : ∃ z_, z_ = moD M1 0 t h d := ⟨_, rfl⟩
  rw [← eM2] at hW
  have hJ2 : Jm M2 0 d t 0 := by rw [eM2]; exact J_mo ht (md_some hN).1
  have hA2 : ∀ j i, (j ≠ 3 ∧ j ≠ 10 ∧ j ≠ 13) → j < 15 → mA M2 j i = mA M j i := fun j i h1 h2 => by rw [eM2, moD_A h1 (Or.inl h2), eM1]; rfl
  refine lv_aload_n hx hb dX5_readFile_10 rfl (lv_at hl 0 rfl) ?_
  refine g12 (k := 9) (v := .ref (zad G 13 9)) hC hW (by decide) mF_X5_35 rfl dX5_readFile_11 ?_
  refine lv_sipush (v := 1000) hx hb dX5_readFile_14 (by decide) ?_
  refine lv_iload_n hx hb dX5_readFile_17 rfl (lv_at hl 2 rfl) ?_
  refine zi_mul (i := 1000) (j := t) hx hb rfl rfl dX5_readFile_18 ?_
  refine lv_iload_n hx hb dX5_readFile_19 rfl (lv_at hl 1 rfl) ?_
  refine zi_add (i := 1000 * t) (j := nm) hx hb rfl rfl dX5_readFile_20 ?_
  refine am (i := 1000 * t + nm) (n := 12000) hC hW (by decide) rfl rfl (rfl) (by omega) dX5_readFile_21 ?_
  refine z_top (y := nI (pp + 1)) (by rw [hA2 _ _ (by decide) (by decide)]; exact hk9) ?_
  refine lv_iconst (v := 1) hx hb dX5_readFile_22 (by decide) ?_
  refine zi_sub (i := pp + 1) (j := 1) hx hb rfl rfl (by omega) dX5_readFile_23 ?_
  refine z_top (y := nI pp) (by rw [show pp + 1 - 1 = pp by omega]) ?_
  refine lv_istore_n (lv' := [(3, .int (nI pp)), (0, .ref (zad G 12 0)), (1, .int (nI nm)), (2, .int (nI t))]) hx hb dX5_readFile_24 rfl hl (by decide) rfl (fun ls hl => ?_)
  refine lv_aload_n hx hb dX5_readFile_25 rfl (lv_at hl 1 rfl) ?_
  refine g12 (k := 7) (v := .ref (zad G 13 7)) hC hW (by decide) mF_X5_28 rfl dX5_readFile_26 ?_
  refine lv_bipush (v := 100) hx hb dX5_readFile_29 (by decide) ?_
  refine lv_iload_n hx hb dX5_readFile_31 rfl (lv_at hl 3 rfl) ?_
  refine zi_mul (i := 100) (j := t) hx hb rfl rfl dX5_readFile_32 ?_
  refine lv_iload_n hx hb dX5_readFile_33 rfl (lv_at hl 0 rfl) ?_
  refine zi_add (i := 100 * t) (j := pp) hx hb rfl rfl dX5_readFile_34 ?_
  refine am (i := 100 * t + pp) (n := 1200) hC hW (by decide) rfl rfl (rfl) (by omega) dX5_readFile_35 ?_
  refine z_top (y := nI z) (by rw [hA2 _ _ (by decide) (by decide)]; exact hz) ?_
  refine lv_istore (lv' := [(4, .int (nI z)), (3, .int (nI pp)), (0, .ref (zad G 12 0)), (1, .int (nI nm)), (2, .int (nI t))]) hx hb dX5_readFile_36 hl (by decide) rfl (fun ls hl => ?_)
  refine lv_aload_n hx hb dX5_readFile_38 rfl (lv_at hl 2 rfl) ?_
  refine lv_aload_n hx hb dX5_readFile_39 rfl (lv_at hl 2 rfl) ?_
  refine g12 (k := 30) (v := .int (mF M2 30)) hC hW (by decide) mF_X5_82 rfl dX5_readFile_40 ?_
  refine lv_if_ne (tgt := 50) hx hb dX5_readFile_43 (by decide) (fun h43 => ?_) (fun h43 => ?_)
  · refine lv_aload_n hx hb dX5_readFile_50 rfl (lv_at hl 2 rfl) ?_
    refine g12 (k := 24) (v := .int (mF M2 24)) hC hW (by decide) mF_X5_68 rfl dX5_readFile_51 ?_
    refine p12 (k := 24) (v := mF M2 24) hC hW (by decide) mF_X5_68 dX5_readFile_54 (fun _ eS H locs hW => ?_)
    subst eS
    have h0e : smF M2 24 (mF M2 24) = mrf0 M2 := by unfold mrf0; rw [if_neg h43]
    have hJ3 : Jm (smF M2 24 (mF M2 24)) 0 d t 0 := (Kp_F (by decide)).J hJ2
    refine lv_aload_n hx hb dX5_readFile_57 rfl (lv_at hl 2 rfl) ?_
    refine lv_iconst (v := 0) hx hb dX5_readFile_58 (by decide) ?_
    refine lv_iload_n hx hb dX5_readFile_59 rfl (lv_at hl 1 rfl) ?_
    refine z_callV (As := [.int 0, .int (nI pp)]) (rest := []) (st1 := []) hC hW LL_12 rfl rfl rfl (c_wind l G C (smF M2 24 (mF M2 24)) (mm := 0) (by decide) hJ3 (pp := pp) (Nat.zero_le _) (by omega)) mw_X5_wind mv_X5_wind mM_X5_139 ⟨Nat.le_of_ble_eq_true rfl, Nat.le_of_ble_eq_true rfl⟩ rfl rfl hl.1 (lv_room (Nat.le_of_ble_eq_true rfl)) dX5_readFile_60 rfl (fun H locs hW => ?_) ⟨Nat.zero_le _, Nat.zero_le _⟩
    obtain ⟨M3, eM3⟩ : ∃ z_, z_ = mwin (smF M2 24 (mF M2 24)) 0 0 pp := ⟨_, rfl⟩
    rw [← eM3] at hW
    have hJ4 : Jm M3 0 d t pp := by rw [eM3]; exact J_mwin (Nat.zero_le _) (by omega) hJ3
    refine lv_iconst (v := 0) hx hb dX5_readFile_63 (by decide) ?_
    refine lv_istore (lv' := [(5, .int 0), (4, .int (nI z)), (3, .int (nI pp)), (0, .ref (zad G 12 0)), (1, .int (nI nm)), (2, .int (nI t))]) hx hb dX5_readFile_64 hl (by decide) rfl (fun ls hl => ?_)
    have lp : ∀ (k : Nat) (i : Nat) (Mj : MS), i + k = z + 2 → Jm Mj 0 d t (pp + i) → mrfL d t k (pp + i) Mj = mrfL d t (z + 2) pp M3 → ∀ (H : Heap) (locs : List Loc) (ls : Array Slot), Wd G s A s.heap H locs C Mj → lv_has ls 7 [(0, .ref (zad G 12 0)), (4, .int (nI z)), (5, .int (nI i))] → W p l e { frames := 3, cells := 0, slots := 0, locals := 65 } s m args below meth c H locs 0 0 Q (F0 m 66 ls []) := by
      intro k
      induction k with
      | zero =>
        intro i Mj hk hJj hD H locs ls hW hl
        refine lv_iload hx hb dX5_readFile_66 (lv_at hl 2 rfl) ?_
        refine lv_iload hx hb dX5_readFile_68 (lv_at hl 1 rfl) ?_
        refine lv_iconst (v := 2) hx hb dX5_readFile_70 (by decide) ?_
        refine zi_add (i := z) (j := 2) hx hb rfl rfl dX5_readFile_71 ?_
        refine zc_ge (i := i) (j := z + 2) (tgt := 139) hx hb rfl rfl (by omega) (by omega) dX5_readFile_72 (by decide) (fun h72 => ?_) (fun h72 => ?_)
        · refine lv_aload_n hx hb dX5_readFile_139 rfl (lv_at hl 0 rfl) ?_
          refine lv_iconst (v := 0) hx hb dX5_readFile_140 (by decide) ?_
          refine z_callV (As := [.int 0]) (rest := []) (st1 := []) hC hW LL_12 rfl rfl rfl (c_unmount l G C Mj (mm := 0) (by decide) hJj.U) mw_X5_unmount mv_X5_unmount mM_X5_149 ⟨Nat.le_of_ble_eq_true rfl, Nat.le_of_ble_eq_true rfl⟩ rfl rfl hl.1 (lv_room (Nat.le_of_ble_eq_true rfl)) dX5_readFile_141 rfl (fun H locs hW => ?_) ⟨Nat.zero_le _, Nat.zero_le _⟩
          obtain ⟨M4, eM4⟩ : ∃ z_, z_ = munM Mj 0 d t := ⟨_, rfl⟩
          rw [← eM4] at hW
          refine lv_aload_n hx hb dX5_readFile_144 rfl (lv_at hl 0 rfl) ?_
          refine lv_iload hx hb dX5_readFile_145 (lv_at hl 1 rfl) ?_
          refine z_callV (As := [.int (nI z)]) (rest := []) (st1 := [.int (menR M4 (nI z))]) hC hW LL_12 rfl rfl rfl (c_X5_ended l G C M4 (nI z)) mw_X5_ended mv_X5_ended mM_X5_153 ⟨Nat.le_of_ble_eq_true rfl, Nat.le_of_ble_eq_true rfl⟩ rfl rfl hl.1 (lv_room (Nat.le_of_ble_eq_true rfl)) dX5_readFile_147 rfl (fun H locs hW => ?_) ⟨Nat.zero_le _, Nat.zero_le _⟩
          obtain ⟨M5, eM5⟩ : ∃ z_, z_ = menE M4 := ⟨_, rfl⟩
          rw [← eM5] at hW
          have hD9 : mrfD M t pp z h d = M4 := by unfold mrfD; rw [← eM1, ← eM2, ← h0e, ← eM3, ← hD, eM4]; rfl
          rw [eM5] at hW
          rw [hD9] at hE
          exact hE hW rfl dX5_readFile_150
        · exact absurd h72 (by omega)
      | succ k ih =>
        intro i Mj hk hJj hD H locs ls hW hl
        have hqz : pp + i < 100 := by omega
        refine lv_iload hx hb dX5_readFile_66 (lv_at hl 2 rfl) ?_
        refine lv_iload hx hb dX5_readFile_68 (lv_at hl 1 rfl) ?_
        refine lv_iconst (v := 2) hx hb dX5_readFile_70 (by decide) ?_
        refine zi_add (i := z) (j := 2) hx hb rfl rfl dX5_readFile_71 ?_
        refine zc_ge (i := i) (j := z + 2) (tgt := 139) hx hb rfl rfl (by omega) (by omega) dX5_readFile_72 (by decide) (fun h72 => ?_) (fun h72 => ?_)
        · exact absurd h72 (by omega)
        · refine lv_aload_n hx hb dX5_readFile_75 rfl (lv_at hl 0 rfl) ?_
          refine g12 (k := 30) (v := .int (mF Mj 30)) hC hW (by decide) mF_X5_82 rfl dX5_readFile_76 ?_
          refine lv_if_ne (tgt := 139) hx hb dX5_readFile_79 (by decide) (fun h79 => ?_) (fun h79 => ?_)
          · refine lv_aload_n hx hb dX5_readFile_139 rfl (lv_at hl 0 rfl) ?_
            refine lv_iconst (v := 0) hx hb dX5_readFile_140 (by decide) ?_
            refine z_callV (As := [.int 0]) (rest := []) (st1 := []) hC hW LL_12 rfl rfl rfl (c_unmount l G C Mj (mm := 0) (by decide) hJj.U) mw_X5_unmount mv_X5_unmount mM_X5_149 ⟨Nat.le_of_ble_eq_true rfl, Nat.le_of_ble_eq_true rfl⟩ rfl rfl hl.1 (lv_room (Nat.le_of_ble_eq_true rfl)) dX5_readFile_141 rfl (fun H locs hW => ?_) ⟨Nat.zero_le _, Nat.zero_le _⟩
            obtain ⟨M6, eM6⟩ : ∃ z_, z_ = munM Mj 0 d t := ⟨_, rfl⟩
            rw [← eM6] at hW
            refine lv_aload_n hx hb dX5_readFile_144 rfl (lv_at hl 0 rfl) ?_
            refine lv_iload hx hb dX5_readFile_145 (lv_at hl 1 rfl) ?_
            refine z_callV (As := [.int (nI z)]) (rest := []) (st1 := [.int (menR M6 (nI z))]) hC hW LL_12 rfl rfl rfl (c_X5_ended l G C M6 (nI z)) mw_X5_ended mv_X5_ended mM_X5_153 ⟨Nat.le_of_ble_eq_true rfl, Nat.le_of_ble_eq_true rfl⟩ rfl rfl hl.1 (lv_room (Nat.le_of_ble_eq_true rfl)) dX5_readFile_147 rfl (fun H locs hW => ?_) ⟨Nat.zero_le _, Nat.zero_le _⟩
            obtain ⟨M7, eM7⟩ : ∃ z_, z_ = menE M6 := ⟨_, rfl⟩
            rw [← eM7] at hW
            have hD9 : mrfD M t pp z h d = M6 := by unfold mrfD; rw [← eM1, ← eM2, ← h0e, ← eM3, ← hD, mrfL, if_pos h79, eM6]
            rw [eM7] at hW
            rw [hD9] at hE
            exact hE hW rfl dX5_readFile_150
          · refine lv_aload_n hx hb dX5_readFile_82 rfl (lv_at hl 0 rfl) ?_
            refine lv_iconst (v := 0) hx hb dX5_readFile_83 (by decide) ?_
            refine z_callV (As := [.int 0]) (rest := []) (st1 := [.int (nI (100 * t + (pp + i)))]) hC hW LL_12 rfl rfl rfl (c_take l G C Mj (mm := 0) (by decide) h79 hqz hJj) mw_X5_take mv_X5_take mM_X5_157 ⟨Nat.le_of_ble_eq_true rfl, Nat.le_of_ble_eq_true rfl⟩ rfl rfl hl.1 (lv_room (Nat.le_of_ble_eq_true rfl)) dX5_readFile_84 rfl (fun H locs hW => ?_) ⟨Nat.zero_le _, Nat.zero_le _⟩
            obtain ⟨M8, eM8⟩ : ∃ z_, z_ = mtak Mj 0 d t (pp + i) := ⟨_, rfl⟩
            rw [← eM8] at hW
            refine lv_istore (lv' := [(6, .int (nI (100 * t + (pp + i)))), (0, .ref (zad G 12 0)), (4, .int (nI z)), (5, .int (nI i))]) hx hb dX5_readFile_87 hl (by decide) rfl (fun ls hl => ?_)
            refine lv_aload_n hx hb dX5_readFile_89 rfl (lv_at hl 1 rfl) ?_
            refine lv_aload_n hx hb dX5_readFile_90 rfl (lv_at hl 1 rfl) ?_
            refine g12 (k := 30) (v := .int (mF M8 30)) hC hW (by decide) mF_X5_82 rfl dX5_readFile_91 ?_
            refine lv_if_ne (tgt := 126) hx hb dX5_readFile_94 (by decide) (fun h94 => ?_) (fun h94 => ?_)
            · refine lv_aload_n hx hb dX5_readFile_126 rfl (lv_at hl 1 rfl) ?_
              refine g12 (k := 24) (v := .int (mF M8 24)) hC hW (by decide) mF_X5_68 rfl dX5_readFile_127 ?_
              refine p12 (k := 24) (v := mF M8 24) hC hW (by decide) mF_X5_68 dX5_readFile_130 (fun _ eS H locs hW => ?_)
              subst eS
              refine lv_iinc (k := 3) (v := nI (i + 1)) (lv' := [(5, .int (nI (i + 1))), (6, .int (nI (100 * t + (pp + i)))), (0, .ref (zad G 12 0)), (4, .int (nI z))]) hx hb dX5_readFile_133 hl rfl (nI_inc _) (by decide) rfl (fun ls hl => ?_)
              refine lv_goto (tgt := 66) hx hb dX5_readFile_136 (by decide) ?_
              exact ih (i + 1) (smF M8 24 (mF M8 24)) (by omega) (by have h9 := J_tak (q := pp + i) h79 (by omega) hJj; rw [← eM8] at h9; exact (Kp_F (by decide)).J h9) (by rw [← hD, mrfL, if_neg (fun z => z h79), ← eM8]; unfold mrfF; rw [if_neg h94]; rfl) _ _ _ hW (lv_sub hl [2, 3, 0] rfl)
            · refine lv_aload_n hx hb dX5_readFile_97 rfl (lv_at hl 1 rfl) ?_
              refine g12 (k := 5) (v := .ref (zad G 13 5)) hC hW (by decide) mF_X5_22 rfl dX5_readFile_98 ?_
              refine lv_iload hx hb dX5_readFile_101 (lv_at hl 0 rfl) ?_
              refine am (i := 100 * t + (pp + i)) (n := 1200) hC hW (by decide) rfl rfl (rfl) (by omega) dX5_readFile_103 ?_
              refine lv_iconst (v := 2) hx hb dX5_readFile_104 (by decide) ?_
              refine lv_icmp_ne (tgt := 126) hx hb dX5_readFile_105 (by decide) (fun h105 => ?_) (fun h105 => ?_)
              · refine lv_aload_n hx hb dX5_readFile_126 rfl (lv_at hl 1 rfl) ?_
                refine g12 (k := 24) (v := .int (mF M8 24)) hC hW (by decide) mF_X5_68 rfl dX5_readFile_127 ?_
                refine p12 (k := 24) (v := mF M8 24) hC hW (by decide) mF_X5_68 dX5_readFile_130 (fun _ eS H locs hW => ?_)
                subst eS
                refine lv_iinc (k := 3) (v := nI (i + 1)) (lv' := [(5, .int (nI (i + 1))), (6, .int (nI (100 * t + (pp + i)))), (0, .ref (zad G 12 0)), (4, .int (nI z))]) hx hb dX5_readFile_133 hl rfl (nI_inc _) (by decide) rfl (fun ls hl => ?_)
                refine lv_goto (tgt := 66) hx hb dX5_readFile_136 (by decide) ?_
                exact ih (i + 1) (smF M8 24 (mF M8 24)) (by omega) (by have h9 := J_tak (q := pp + i) h79 (by omega) hJj; rw [← eM8] at h9; exact (Kp_F (by decide)).J h9) (by rw [← hD, mrfL, if_neg (fun z => z h79), ← eM8]; unfold mrfF; rw [if_pos h94, if_neg h105]; rfl) _ _ _ hW (lv_sub hl [2, 3, 0] rfl)
              · refine lv_bipush (v := 31) hx hb dX5_readFile_108 (by decide) ?_
                refine lv_aload_n hx hb dX5_readFile_110 rfl (lv_at hl 1 rfl) ?_
                refine g12 (k := 24) (v := .int (mF M8 24)) hC hW (by decide) mF_X5_68 rfl dX5_readFile_111 ?_
                refine lv_imul hx hb dX5_readFile_114 ?_
                refine lv_aload_n hx hb dX5_readFile_115 rfl (lv_at hl 1 rfl) ?_
                refine g12 (k := 6) (v := .ref (zad G 13 6)) hC hW (by decide) mF_X5_25 rfl dX5_readFile_116 ?_
                refine lv_iload hx hb dX5_readFile_119 (lv_at hl 0 rfl) ?_
                refine am (i := 100 * t + (pp + i)) (n := 1200) hC hW (by decide) rfl rfl (rfl) (by omega) dX5_readFile_121 ?_
                refine lv_iadd hx hb dX5_readFile_122 ?_
                refine lv_goto (tgt := 130) hx hb dX5_readFile_123 (by decide) ?_
                refine p12 (k := 24) (v := (31 * (mF M8 24)) + (mA M8 6 (100 * t + (pp + i)))) hC hW (by decide) mF_X5_68 dX5_readFile_130 (fun _ eS H locs hW => ?_)
                subst eS
                refine lv_iinc (k := 3) (v := nI (i + 1)) (lv' := [(5, .int (nI (i + 1))), (6, .int (nI (100 * t + (pp + i)))), (0, .ref (zad G 12 0)), (4, .int (nI z))]) hx hb dX5_readFile_133 hl rfl (nI_inc _) (by decide) rfl (fun ls hl => ?_)
                refine lv_goto (tgt := 66) hx hb dX5_readFile_136 (by decide) ?_
                exact ih (i + 1) (smF M8 24 ((31 * (mF M8 24)) + (mA M8 6 (100 * t + (pp + i))))) (by omega) (by have h9 := J_tak (q := pp + i) h79 (by omega) hJj; rw [← eM8] at h9; exact (Kp_F (by decide)).J h9) (by rw [← hD, mrfL, if_neg (fun z => z h79), ← eM8]; unfold mrfF; rw [if_pos h94, if_pos h105]; rfl) _ _ _ hW (lv_sub hl [2, 3, 0] rfl)
    exact lp (z + 2) 0 M3 (by omega) hJ4 rfl _ _ _ hW (lv_sub hl [3, 1, 0] rfl)
  · refine lv_iconst (v := 1) hx hb dX5_readFile_46 (by decide) ?_
    refine lv_goto (tgt := 54) hx hb dX5_readFile_47 (by decide) ?_
    refine p12 (k := 24) (v := 1) hC hW (by decide) mF_X5_68 dX5_readFile_54 (fun _ eS H locs hW => ?_)
    subst eS
    have h0e : smF M2 24 1 = mrf0 M2 := by unfold mrf0; rw [if_pos h43]
    have hJ3 : Jm (smF M2 24 1) 0 d t 0 := (Kp_F (by decide)).J hJ2
    refine lv_aload_n hx hb dX5_readFile_57 rfl (lv_at hl 2 rfl) ?_
    refine lv_iconst (v := 0) hx hb dX5_readFile_58 (by decide) ?_
    refine lv_iload_n hx hb dX5_readFile_59 rfl (lv_at hl 1 rfl) ?_
    refine z_callV (As := [.int 0, .int (nI pp)]) (rest := []) (st1 := []) hC hW LL_12 rfl rfl rfl (c_wind l G C (smF M2 24 1) (mm := 0) (by decide) hJ3 (pp := pp) (Nat.zero_le _) (by omega)) mw_X5_wind mv_X5_wind mM_X5_139 ⟨Nat.le_of_ble_eq_true rfl, Nat.le_of_ble_eq_true rfl⟩ rfl rfl hl.1 (lv_room (Nat.le_of_ble_eq_true rfl)) dX5_readFile_60 rfl (fun H locs hW => ?_) ⟨Nat.zero_le _, Nat.zero_le _⟩
    obtain ⟨M9, eM9⟩ : ∃ z_, z_ = mwin (smF M2 24 1) 0 0 pp := ⟨_, rfl⟩
    rw [← eM9] at hW
    have hJ4 : Jm M9 0 d t pp := by rw [eM9]; exact J_mwin (Nat.zero_le _) (by omega) hJ3
    refine lv_iconst (v := 0) hx hb dX5_readFile_63 (by decide) ?_
    refine lv_istore (lv' := [(5, .int 0), (4, .int (nI z)), (3, .int (nI pp)), (0, .ref (zad G 12 0)), (1, .int (nI nm)), (2, .int (nI t))]) hx hb dX5_readFile_64 hl (by decide) rfl (fun ls hl => ?_)
    have lp : ∀ (k : Nat) (i : Nat) (Mj : MS), i + k = z + 2 → Jm Mj 0 d t (pp + i) → mrfL d t k (pp + i) Mj = mrfL d t (z + 2) pp M9 → ∀ (H : Heap) (locs : List Loc) (ls : Array Slot), Wd G s A s.heap H locs C Mj → lv_has ls 7 [(0, .ref (zad G 12 0)), (4, .int (nI z)), (5, .int (nI i))] → W p l e { frames := 3, cells := 0, slots := 0, locals := 65 } s m args below meth c H locs 0 0 Q (F0 m 66 ls []) := by
      intro k
      induction k with
      | zero =>
        intro i Mj hk hJj hD H locs ls hW hl
        refine lv_iload hx hb dX5_readFile_66 (lv_at hl 2 rfl) ?_
        refine lv_iload hx hb dX5_readFile_68 (lv_at hl 1 rfl) ?_
        refine lv_iconst (v := 2) hx hb dX5_readFile_70 (by decide) ?_
        refine zi_add (i := z) (j := 2) hx hb rfl rfl dX5_readFile_71 ?_
        refine zc_ge (i := i) (j := z + 2) (tgt := 139) hx hb rfl rfl (by omega) (by omega) dX5_readFile_72 (by decide) (fun h72 => ?_) (fun h72 => ?_)
        · refine lv_aload_n hx hb dX5_readFile_139 rfl (lv_at hl 0 rfl) ?_
          refine lv_iconst (v := 0) hx hb dX5_readFile_140 (by decide) ?_
          refine z_callV (As := [.int 0]) (rest := []) (st1 := []) hC hW LL_12 rfl rfl rfl (c_unmount l G C Mj (mm := 0) (by decide) hJj.U) mw_X5_unmount mv_X5_unmount mM_X5_149 ⟨Nat.le_of_ble_eq_true rfl, Nat.le_of_ble_eq_true rfl⟩ rfl rfl hl.1 (lv_room (Nat.le_of_ble_eq_true rfl)) dX5_readFile_141 rfl (fun H locs hW => ?_) ⟨Nat.zero_le _, Nat.zero_le _⟩
          obtain ⟨M10, eM10⟩ : ∃ z_, z_ = munM Mj 0 d t := ⟨_, rfl⟩
          rw [← eM10] at hW
          refine lv_aload_n hx hb dX5_readFile_144 rfl (lv_at hl 0 rfl) ?_
          refine lv_iload hx hb dX5_readFile_145 (lv_at hl 1 rfl) ?_
          refine z_callV (As := [.int (nI z)]) (rest := []) (st1 := [.int (menR M10 (nI z))]) hC hW LL_12 rfl rfl rfl (c_X5_ended l G C M10 (nI z)) mw_X5_ended mv_X5_ended mM_X5_153 ⟨Nat.le_of_ble_eq_true rfl, Nat.le_of_ble_eq_true rfl⟩ rfl rfl hl.1 (lv_room (Nat.le_of_ble_eq_true rfl)) dX5_readFile_147 rfl (fun H locs hW => ?_) ⟨Nat.zero_le _, Nat.zero_le _⟩
          obtain ⟨M11, eM11⟩ : ∃ z_, z_ = menE M10 := ⟨_, rfl⟩
          rw [← eM11] at hW
          have hD9 : mrfD M t pp z h d = M10 := by unfold mrfD; rw [← eM1, ← eM2, ← h0e, ← eM9, ← hD, eM10]; rfl
          rw [eM11] at hW
          rw [hD9] at hE
          exact hE hW rfl dX5_readFile_150
        · exact absurd h72 (by omega)
      | succ k ih =>
        intro i Mj hk hJj hD H locs ls hW hl
        have hqz : pp + i < 100 := by omega
        refine lv_iload hx hb dX5_readFile_66 (lv_at hl 2 rfl) ?_
        refine lv_iload hx hb dX5_readFile_68 (lv_at hl 1 rfl) ?_
        refine lv_iconst (v := 2) hx hb dX5_readFile_70 (by decide) ?_
        refine zi_add (i := z) (j := 2) hx hb rfl rfl dX5_readFile_71 ?_
        refine zc_ge (i := i) (j := z + 2) (tgt := 139) hx hb rfl rfl (by omega) (by omega) dX5_readFile_72 (by decide) (fun h72 => ?_) (fun h72 => ?_)
        · exact absurd h72 (by omega)
        · refine lv_aload_n hx hb dX5_readFile_75 rfl (lv_at hl 0 rfl) ?_
          refine g12 (k := 30) (v := .int (mF Mj 30)) hC hW (by decide) mF_X5_82 rfl dX5_readFile_76 ?_
          refine lv_if_ne (tgt := 139) hx hb dX5_readFile_79 (by decide) (fun h79 => ?_) (fun h79 => ?_)
          · refine lv_aload_n hx hb dX5_readFile_139 rfl (lv_at hl 0 rfl) ?_
            refine lv_iconst (v := 0) hx hb dX5_readFile_140 (by decide) ?_
            refine z_callV (As := [.int 0]) (rest := []) (st1 := []) hC hW LL_12 rfl rfl rfl (c_unmount l G C Mj (mm := 0) (by decide) hJj.U) mw_X5_unmount mv_X5_unmount mM_X5_149 ⟨Nat.le_of_ble_eq_true rfl, Nat.le_of_ble_eq_true rfl⟩ rfl rfl hl.1 (lv_room (Nat.le_of_ble_eq_true rfl)) dX5_readFile_141 rfl (fun H locs hW => ?_) ⟨Nat.zero_le _, Nat.zero_le _⟩
            obtain ⟨M12, eM12⟩ : ∃ z_, z_ = munM Mj 0 d t := ⟨_, rfl⟩
            rw [← eM12] at hW
            refine lv_aload_n hx hb dX5_readFile_144 rfl (lv_at hl 0 rfl) ?_
            refine lv_iload hx hb dX5_readFile_145 (lv_at hl 1 rfl) ?_
            refine z_callV (As := [.int (nI z)]) (rest := []) (st1 := [.int (menR M12 (nI z))]) hC hW LL_12 rfl rfl rfl (c_X5_ended l G C M12 (nI z)) mw_X5_ended mv_X5_ended mM_X5_153 ⟨Nat.le_of_ble_eq_true rfl, Nat.le_of_ble_eq_true rfl⟩ rfl rfl hl.1 (lv_room (Nat.le_of_ble_eq_true rfl)) dX5_readFile_147 rfl (fun H locs hW => ?_) ⟨Nat.zero_le _, Nat.zero_le _⟩
            obtain ⟨M13, eM13⟩ : ∃ z_, z_ = menE M12 := ⟨_, rfl⟩
            rw [← eM13] at hW
            have hD9 : mrfD M t pp z h d = M12 := by unfold mrfD; rw [← eM1, ← eM2, ← h0e, ← eM9, ← hD, mrfL, if_pos h79, eM12]
            rw [eM13] at hW
            rw [hD9] at hE
            exact hE hW rfl dX5_readFile_150
          · refine lv_aload_n hx hb dX5_readFile_82 rfl (lv_at hl 0 rfl) ?_
            refine lv_iconst (v := 0) hx hb dX5_readFile_83 (by decide) ?_
            refine z_callV (As := [.int 0]) (rest := []) (st1 := [.int (nI (100 * t + (pp + i)))]) hC hW LL_12 rfl rfl rfl (c_take l G C Mj (mm := 0) (by decide) h79 hqz hJj) mw_X5_take mv_X5_take mM_X5_157 ⟨Nat.le_of_ble_eq_true rfl, Nat.le_of_ble_eq_true rfl⟩ rfl rfl hl.1 (lv_room (Nat.le_of_ble_eq_true rfl)) dX5_readFile_84 rfl (fun H locs hW => ?_) ⟨Nat.zero_le _, Nat.zero_le _⟩
            obtain ⟨M14, eM14⟩ : ∃ z_, z_ = mtak Mj 0 d t (pp + i) := ⟨_, rfl⟩
            rw [← eM14] at hW
            refine lv_istore (lv' := [(6, .int (nI (100 * t + (pp + i)))), (0, .ref (zad G 12 0)), (4, .int (nI z)), (5, .int (nI i))]) hx hb dX5_readFile_87 hl (by decide) rfl (fun ls hl => ?_)
            refine lv_aload_n hx hb dX5_readFile_89 rfl (lv_at hl 1 rfl) ?_
            refine lv_aload_n hx hb dX5_readFile_90 rfl (lv_at hl 1 rfl) ?_
            refine g12 (k := 30) (v := .int (mF M14 30)) hC hW (by decide) mF_X5_82 rfl dX5_readFile_91 ?_
            refine lv_if_ne (tgt := 126) hx hb dX5_readFile_94 (by decide) (fun h94 => ?_) (fun h94 => ?_)
            · refine lv_aload_n hx hb dX5_readFile_126 rfl (lv_at hl 1 rfl) ?_
              refine g12 (k := 24) (v := .int (mF M14 24)) hC hW (by decide) mF_X5_68 rfl dX5_readFile_127 ?_
              refine p12 (k := 24) (v := mF M14 24) hC hW (by decide) mF_X5_68 dX5_readFile_130 (fun _ eS H locs hW => ?_)
              subst eS
              refine lv_iinc (k := 3) (v := nI (i + 1)) (lv' := [(5, .int (nI (i + 1))), (6, .int (nI (100 * t + (pp + i)))), (0, .ref (zad G 12 0)), (4, .int (nI z))]) hx hb dX5_readFile_133 hl rfl (nI_inc _) (by decide) rfl (fun ls hl => ?_)
              refine lv_goto (tgt := 66) hx hb dX5_readFile_136 (by decide) ?_
              exact ih (i + 1) (smF M14 24 (mF M14 24)) (by omega) (by have h9 := J_tak (q := pp + i) h79 (by omega) hJj; rw [← eM14] at h9; exact (Kp_F (by decide)).J h9) (by rw [← hD, mrfL, if_neg (fun z => z h79), ← eM14]; unfold mrfF; rw [if_neg h94]; rfl) _ _ _ hW (lv_sub hl [2, 3, 0] rfl)
            · refine lv_aload_n hx hb dX5_readFile_97 rfl (lv_at hl 1 rfl) ?_
              refine g12 (k := 5) (v := .ref (zad G 13 5)) hC hW (by decide) mF_X5_22 rfl dX5_readFile_98 ?_
              refine lv_iload hx hb dX5_readFile_101 (lv_at hl 0 rfl) ?_
              refine am (i := 100 * t + (pp + i)) (n := 1200) hC hW (by decide) rfl rfl (rfl) (by omega) dX5_readFile_103 ?_
              refine lv_iconst (v := 2) hx hb dX5_readFile_104 (by decide) ?_
              refine lv_icmp_ne (tgt := 126) hx hb dX5_readFile_105 (by decide) (fun h105 => ?_) (fun h105 => ?_)
              · refine lv_aload_n hx hb dX5_readFile_126 rfl (lv_at hl 1 rfl) ?_
                refine g12 (k := 24) (v := .int (mF M14 24)) hC hW (by decide) mF_X5_68 rfl dX5_readFile_127 ?_
                refine p12 (k := 24) (v := mF M14 24) hC hW (by decide) mF_X5_68 dX5_readFile_130 (fun _ eS H locs hW => ?_)
                subst eS
                refine lv_iinc (k := 3) (v := nI (i + 1)) (lv' := [(5, .int (nI (i + 1))), (6, .int (nI (100 * t + (pp + i)))), (0, .ref (zad G 12 0)), (4, .int (nI z))]) hx hb dX5_readFile_133 hl rfl (nI_inc _) (by decide) rfl (fun ls hl => ?_)
                refine lv_goto (tgt := 66) hx hb dX5_readFile_136 (by decide) ?_
                exact ih (i + 1) (smF M14 24 (mF M14 24)) (by omega) (by have h9 := J_tak (q := pp + i) h79 (by omega) hJj; rw [← eM14] at h9; exact (Kp_F (by decide)).J h9) (by rw [← hD, mrfL, if_neg (fun z => z h79), ← eM14]; unfold mrfF; rw [if_pos h94, if_neg h105]; rfl) _ _ _ hW (lv_sub hl [2, 3, 0] rfl)
              · refine lv_bipush (v := 31) hx hb dX5_readFile_108 (by decide) ?_
                refine lv_aload_n hx hb dX5_readFile_110 rfl (lv_at hl 1 rfl) ?_
                refine g12 (k := 24) (v := .int (mF M14 24)) hC hW (by decide) mF_X5_68 rfl dX5_readFile_111 ?_
                refine lv_imul hx hb dX5_readFile_114 ?_
                refine lv_aload_n hx hb dX5_readFile_115 rfl (lv_at hl 1 rfl) ?_
                refine g12 (k := 6) (v := .ref (zad G 13 6)) hC hW (by decide) mF_X5_25 rfl dX5_readFile_116 ?_
                refine lv_iload hx hb dX5_readFile_119 (lv_at hl 0 rfl) ?_
                refine am (i := 100 * t + (pp + i)) (n := 1200) hC hW (by decide) rfl rfl (rfl) (by omega) dX5_readFile_121 ?_
                refine lv_iadd hx hb dX5_readFile_122 ?_
                refine lv_goto (tgt := 130) hx hb dX5_readFile_123 (by decide) ?_
                refine p12 (k := 24) (v := (31 * (mF M14 24)) + (mA M14 6 (100 * t + (pp + i)))) hC hW (by decide) mF_X5_68 dX5_readFile_130 (fun _ eS H locs hW => ?_)
                subst eS
                refine lv_iinc (k := 3) (v := nI (i + 1)) (lv' := [(5, .int (nI (i + 1))), (6, .int (nI (100 * t + (pp + i)))), (0, .ref (zad G 12 0)), (4, .int (nI z))]) hx hb dX5_readFile_133 hl rfl (nI_inc _) (by decide) rfl (fun ls hl => ?_)
                refine lv_goto (tgt := 66) hx hb dX5_readFile_136 (by decide) ?_
                exact ih (i + 1) (smF M14 24 ((31 * (mF M14 24)) + (mA M14 6 (100 * t + (pp + i))))) (by omega) (by have h9 := J_tak (q := pp + i) h79 (by omega) hJj; rw [← eM14] at h9; exact (Kp_F (by decide)).J h9) (by rw [← hD, mrfL, if_neg (fun z => z h79), ← eM14]; unfold mrfF; rw [if_pos h94, if_pos h105]; rfl) _ _ _ hW (lv_sub hl [2, 3, 0] rfl)
    exact lp (z + 2) 0 M9 (by omega) hJ4 rfl _ _ _ hW (lv_sub hl [3, 1, 0] rfl)

