/-! ===== the reference: read, salvage ===== -/
def mPP (M : MS) (t nm : Nat) : Nat := mN M 9 (1000 * t + nm) - 1
def mPZ (M : MS) (t nm : Nat) : Nat := mN M 7 (100 * t + mPP M t nm)
def mrfT (M : MS) (t nm : Nat) : MS := match mdC M (mN M 1 t) with
  | none => mrfN M
  | some d => mrfD M t (mPP M t nm) (mPZ M t nm) (mN M 1 t) d
def mrfR (M : MS) (t nm : Nat) : Int32 := menR (mrfT M t nm) (nI (mPZ M t nm))
def mrfS (M : MS) (t nm : Nat) : MS := menE (mrfT M t nm)
/-- the catalogue has a file there, which the tape holds -/
def Kn (M : MS) (t nm : Nat) : Prop := ∃ pp z h, mA M 9 (1000 * t + nm) = nI (pp + 1) ∧ mA M 7 (100 * t + pp) = nI z ∧ pp + z + 2 ≤ 100 ∧ mA M 1 t = nI h ∧ h < 32
theorem m_rf (l : Launch) (G : GG) (C : CS) (M : MS) {t nm : Nat} (ht : t < 12) (hnm : nm < 1000) (hK : Kn M t nm) : Ct l G yX5_readFile cX5_readFile 7 (some .int) 3 65 [.ref (zad G 12 0), .int (nI nm), .int (nI t)] C M (some (.int (mrfR M t nm))) C (mrfS M t nm) := by
  obtain ⟨pp, z, h, hk9, hz, hpz, hh, hh32⟩ := hK
  have e1 : mPP M t nm = pp := by unfold mPP; rw [mN_of hk9 (by omega)]; omega
  have e2 : mPZ M t nm = z := by unfold mPZ; rw [e1, mN_of hz (by omega)]
  have e3 : mN M 1 t = h := mN_of hh (by omega)
  unfold mrfR mrfS mrfT
  rw [e1, e2, e3]
  cases hN : mdC M h with
  | none => exact m_rf_n l G C M ht hnm hk9 hz hpz hh hh32 hN
  | some d => exact m_rf_s l G C M ht hnm hk9 hz hpz hh hh32 hN
/-! what a reading keeps -/
abbrev rdJ (j : Nat) : Prop := j ≠ 3 ∧ j ≠ 4 ∧ j < 10
theorem munm_A {M : MS} {m d t q j i : Nat} (h : j ≠ 4 ∧ j ≠ 10) : mA (munm M m d t q) j i = mA M j i := by
  unfold munm
  rw [mA_nj h.2, mA_smF]
  unfold mun2; split
  · rfl
  · unfold mun1; rw [mA_nj h.1, mA_smF]
theorem munM_A {M : MS} {m d t j i : Nat} (h : j ≠ 4 ∧ j ≠ 10) : mA (munM M m d t) j i = mA M j i := munm_A h
theorem munm_F {M : MS} {m d t q f : Nat} (h : f ≠ 26) : mF (munm M m d t q) f = mF M f := by
  unfold munm
  rw [mF_smA, mF_smF, if_neg h]
  unfold mun2; split
  · rfl
  · unfold mun1; rw [mF_smA, mF_smF, if_neg h]
theorem mrfF_A {M : MS} {a : Nat} : mA (mrfF M a) = mA M := rfl
theorem mrfL_A {d t j i : Nat} (h : j ≠ 11 ∧ j ≠ 12 ∧ j ≠ 14 ∧ j ≠ 19) : ∀ (k q : Nat) (M : MS), mA (mrfL d t k q M) j i = mA M j i := by
  intro k
  induction k with
  | zero => intro q M; rfl
  | succ k ih =>
    intro q M; unfold mrfL; split
    · rfl
    · rw [ih, mrfF_A, mtak_A h]
theorem mrfL_F {d t f : Nat} (h : f ≠ 25 ∧ f ≠ 29 ∧ f ≠ 30) (h2 : f ≠ 24) : ∀ (k q : Nat) (M : MS), mF (mrfL d t k q M) f = mF M f := by
  intro k
  induction k with
  | zero => intro q M; rfl
  | succ k ih =>
    intro q M; unfold mrfL; split
    · rfl
    · rw [ih]; unfold mrfF; rw [mF_smF, if_neg h2, mtak_F h]
theorem mrfT_A {M : MS} {t nm j i : Nat} (hj : rdJ j) : mA (mrfT M t nm) j i = mA M j i := by
  unfold mrfT
  split
  · unfold mrfN mrf0 moN; rw [mA_smF, mA_smF, mA_nj (by omega), mo0_A (by omega)]; rfl
  · unfold mrfD
    rw [munM_A (by omega), mrfL_A (by omega), mwin_A (by omega)]
    unfold mrf0; rw [mA_smF, moD_A (by omega) (Or.inl (by omega))]; rfl
theorem mrfT_F {M : MS} {t nm f : Nat} (h : f ≠ 25 ∧ f ≠ 29 ∧ f ≠ 30) (h2 : f ≠ 24 ∧ f ≠ 26 ∧ f ≠ 27) : mF (mrfT M t nm) f = mF M f := by
  unfold mrfT
  split
  · unfold mrfN mrf0 moN mo0 mbeg; rw [mF_smF, if_neg h2.1, mF_smF, if_neg h.2.2, mF_smA, mF_smA, mF_smA, mF_smA, mF_smF, if_neg h2.2.2, mF_smF, if_neg h.2.2]
  · unfold mrfD munM
    rw [munm_F h2.2.1, mrfL_F h h2.1, mwin_F h]
    unfold mrf0; rw [mF_smF, if_neg h2.1, moD_F h]
    unfold mbeg; rw [mF_smF, if_neg h2.2.2, mF_smF, if_neg h.2.2]
theorem mrfS_A {M : MS} {t nm j i : Nat} (hj : rdJ j) : mA (mrfS M t nm) j i = mA M j i := (mrfT_A hj : mA (mrfT M t nm) j i = _)
theorem mrfS_0 {M : MS} {t nm : Nat} : mF (mrfS M t nm) 0 = mF M 0 := by
  unfold mrfS menE; rw [mF_smF, if_neg (by decide)]; exact mrfT_F (by decide) (by decide)
/-- each file that the catalogue has of a name -/
def Kv (M : MS) (n nm : Nat) : Prop := ∀ t, t < n → mA M 9 (1000 * t + nm) = 0 ∨ Kn M t nm
theorem Kv_rf {M : MS} {n nm t nm2 : Nat} (h : Kv M n nm) : Kv (mrfS M t nm2) n nm := by
  intro t2 ht2
  rw [mrfS_A (by decide)]
  unfold Kn
  rw [mrfS_A (by decide), mrfS_A (by decide)]
  rcases h t2 ht2 with q | ⟨pp, z, h, q⟩
  · exact Or.inl q
  · exact Or.inr ⟨pp, z, h, q.1, by rw [mrfS_A (by decide)]; exact q.2.1, q.2.2⟩
def msvL (nm : Nat) : Nat → Nat → Int32 → MS → Int32 × MS
  | 0, _, w, M => (w, M)
  | k + 1, j, w, M => if w = -4 then (w, M) else if mA M 9 (1000 * j + nm) ≤ 0 then msvL nm k (j + 1) w M else if mrfR M j nm < 0 then msvL nm k (j + 1) (mrfR M j nm) (mrfS M j nm) else (nI j, mrfS M j nm)

set_option maxHeartbeats 4000000 in
set_option maxRecDepth 100000 in
theorem m_rea_n (l : Launch) (G : GG) (C : CS) (M : MS) {x : Int32} (hn : ¬ nameP x) (y : Int32) : Ct l G yX5_read cX5_read 3 (some .int) 4 91 [.ref (zad G 12 0), .int x, .int y] C M (some (.int (-1))) C M := by
  refine Ct_i (by decide) (Nat.le_of_ble_eq_true rfl) (fun {p e s m args below meth c A Q ls} hC hW hl hE => ?_)
  have hx := hC.1
  have hb := hC.2.1
  have hl : lv_has ls 3 [(0, .ref (zad G 12 0)), (1, .int x), (2, .int y)] := hl
  refine lv_iload_n hx hb dX5_read_0 rfl (lv_at hl 1 rfl) ?_
  refine z_callS (rest := []) (st1 := [.int (bI (nameP x))]) hC hW (c_X5_isName l G C M x) mw_X5_isName mT_X5_isName mM_X5_113 ⟨Nat.le_of_ble_eq_true rfl, Nat.le_of_ble_eq_true rfl⟩ rfl rfl hl.1 (lv_room (Nat.le_of_ble_eq_true rfl)) dX5_read_1 rfl (fun H locs hW => ?_) ⟨Nat.zero_le _, Nat.zero_le _⟩
  refine zb_eq (tgt := 15) hx hb (nameP x) rfl dX5_read_4 (by decide) (fun h4 => ?_) (fun h4 => ?_)
  · refine lv_iconst (v := (-1)) hx hb dX5_read_15 (by decide) ?_
    have qr : ((-1) : Int32) = -1 := by simp [bI, h4, cF_sF, cN_sN, cB_sB, cM_sM, cN_sF, cB_sF, cM_sF, cF_sN, cB_sN, cM_sN, cF_sB, cN_sB, cM_sB, cF_sM, cN_sM, cB_sM, mF_smF, mA_smF, mF_smA, mA_smA]
    exact hE hW qr dX5_read_16
  · exact absurd h4 hn

set_option maxHeartbeats 4000000 in
set_option maxRecDepth 100000 in
theorem m_rea_b (l : Launch) (G : GG) (C : CS) (M : MS) {n : Nat} (hle : n ≤ 12) (hn : mF M 0 = nI n) {x y : Int32} (hnm : nameP x) (hby : badT n y) : Ct l G yX5_read cX5_read 3 (some .int) 4 91 [.ref (zad G 12 0), .int x, .int y] C M (some (.int (-1))) C M := by
  refine Ct_i (by decide) (Nat.le_of_ble_eq_true rfl) (fun {p e s m args below meth c A Q ls} hC hW hl hE => ?_)
  have hx := hC.1
  have hb := hC.2.1
  have hl : lv_has ls 3 [(0, .ref (zad G 12 0)), (1, .int x), (2, .int y)] := hl
  refine lv_iload_n hx hb dX5_read_0 rfl (lv_at hl 1 rfl) ?_
  refine z_callS (rest := []) (st1 := [.int (bI (nameP x))]) hC hW (c_X5_isName l G C M x) mw_X5_isName mT_X5_isName mM_X5_113 ⟨Nat.le_of_ble_eq_true rfl, Nat.le_of_ble_eq_true rfl⟩ rfl rfl hl.1 (lv_room (Nat.le_of_ble_eq_true rfl)) dX5_read_1 rfl (fun H locs hW => ?_) ⟨Nat.zero_le _, Nat.zero_le _⟩
  refine zb_eq (tgt := 15) hx hb (nameP x) rfl dX5_read_4 (by decide) (fun h4 => ?_) (fun h4 => ?_)
  · exact absurd hnm h4
  · refine lv_aload_n hx hb dX5_read_7 rfl (lv_at hl 0 rfl) ?_
    refine lv_iload_n hx hb dX5_read_8 rfl (lv_at hl 2 rfl) ?_
    refine z_callV (As := [.int y]) (rest := []) (st1 := [.int (bI (¬ badT n y))]) hC hW LL_12 rfl rfl rfl (c_X5_isTape l G C M hle hn y) mw_X5_isTape mv_X5_isTape mM_X5_129 ⟨Nat.le_of_ble_eq_true rfl, Nat.le_of_ble_eq_true rfl⟩ rfl rfl hl.1 (lv_room (Nat.le_of_ble_eq_true rfl)) dX5_read_9 rfl (fun H locs hW => ?_) ⟨Nat.zero_le _, Nat.zero_le _⟩
    refine zb_ne (tgt := 17) hx hb (¬ badT n y) rfl dX5_read_12 (by decide) (fun h12 => ?_) (fun h12 => ?_)
    · exact absurd hby h12
    · refine lv_iconst (v := (-1)) hx hb dX5_read_15 (by decide) ?_
      have qr : ((-1) : Int32) = -1 := by simp [bI, h4, h12, cF_sF, cN_sN, cB_sB, cM_sM, cN_sF, cB_sF, cM_sF, cF_sN, cB_sN, cM_sN, cF_sB, cN_sB, cM_sB, cF_sM, cN_sM, cB_sM, mF_smF, mA_smF, mF_smA, mA_smA]
      exact hE hW qr dX5_read_16

set_option maxHeartbeats 4000000 in
set_option maxRecDepth 100000 in
theorem m_rea_0 (l : Launch) (G : GG) (C : CS) (M : MS) {n : Nat} (hle : n ≤ 12) (hn : mF M 0 = nI n) {t : Nat} (ht : t < n) {nm : Nat} (hnm3 : nm < 1000) (hnm : nameP (nI nm)) (hk : mA M 9 (1000 * t + nm) = 0) : Ct l G yX5_read cX5_read 3 (some .int) 4 91 [.ref (zad G 12 0), .int (nI nm), .int (nI t)] C M (some (.int (-2))) C M := by
  refine Ct_i (by decide) (Nat.le_of_ble_eq_true rfl) (fun {p e s m args below meth c A Q ls} hC hW hl hE => ?_)
  have hx := hC.1
  have hb := hC.2.1
  have hl : lv_has ls 3 [(0, .ref (zad G 12 0)), (1, .int (nI nm)), (2, .int (nI t))] := hl
  refine lv_iload_n hx hb dX5_read_0 rfl (lv_at hl 1 rfl) ?_
  refine z_callS (rest := []) (st1 := [.int (bI (nameP (nI nm)))]) hC hW (c_X5_isName l G C M (nI nm)) mw_X5_isName mT_X5_isName mM_X5_113 ⟨Nat.le_of_ble_eq_true rfl, Nat.le_of_ble_eq_true rfl⟩ rfl rfl hl.1 (lv_room (Nat.le_of_ble_eq_true rfl)) dX5_read_1 rfl (fun H locs hW => ?_) ⟨Nat.zero_le _, Nat.zero_le _⟩
  refine zb_eq (tgt := 15) hx hb (nameP (nI nm)) rfl dX5_read_4 (by decide) (fun h4 => ?_) (fun h4 => ?_)
  · exact absurd hnm h4
  · refine lv_aload_n hx hb dX5_read_7 rfl (lv_at hl 0 rfl) ?_
    refine lv_iload_n hx hb dX5_read_8 rfl (lv_at hl 2 rfl) ?_
    refine z_callV (As := [.int (nI t)]) (rest := []) (st1 := [.int (bI (¬ badT n (nI t)))]) hC hW LL_12 rfl rfl rfl (c_X5_isTape l G C M hle hn (nI t)) mw_X5_isTape mv_X5_isTape mM_X5_129 ⟨Nat.le_of_ble_eq_true rfl, Nat.le_of_ble_eq_true rfl⟩ rfl rfl hl.1 (lv_room (Nat.le_of_ble_eq_true rfl)) dX5_read_9 rfl (fun H locs hW => ?_) ⟨Nat.zero_le _, Nat.zero_le _⟩
    refine zb_ne (tgt := 17) hx hb (¬ badT n (nI t)) rfl dX5_read_12 (by decide) (fun h12 => ?_) (fun h12 => ?_)
    · refine lv_aload_n hx hb dX5_read_17 rfl (lv_at hl 0 rfl) ?_
      refine g12 (k := 9) (v := .ref (zad G 13 9)) hC hW (by decide) mF_X5_35 rfl dX5_read_18 ?_
      refine lv_sipush (v := 1000) hx hb dX5_read_21 (by decide) ?_
      refine lv_iload_n hx hb dX5_read_24 rfl (lv_at hl 2 rfl) ?_
      refine zi_mul (i := 1000) (j := t) hx hb rfl rfl dX5_read_25 ?_
      refine lv_iload_n hx hb dX5_read_26 rfl (lv_at hl 1 rfl) ?_
      refine zi_add (i := 1000 * t) (j := nm) hx hb rfl rfl dX5_read_27 ?_
      refine am (i := 1000 * t + nm) (n := 12000) hC hW (by decide) rfl rfl (rfl) (by omega) dX5_read_28 ?_
      refine lv_if_ne (tgt := 37) hx hb dX5_read_29 (by decide) (fun h29 => ?_) (fun h29 => ?_)
      · exact absurd hk h29
      · refine lv_bipush (v := (-2)) hx hb dX5_read_32 (by decide) ?_
        refine lv_goto (tgt := 43) hx hb dX5_read_34 (by decide) ?_
        have qr : ((-2) : Int32) = -2 := by simp [bI, h4, h12, h29, cF_sF, cN_sN, cB_sB, cM_sM, cN_sF, cB_sF, cM_sF, cF_sN, cB_sN, cM_sN, cF_sB, cN_sB, cM_sB, cF_sM, cN_sM, cB_sM, mF_smF, mA_smF, mF_smA, mA_smA]
        exact hE hW qr dX5_read_43
    · exact absurd (not_bad hle ht) h12

set_option maxHeartbeats 4000000 in
set_option maxRecDepth 100000 in
theorem m_rea_1 (l : Launch) (G : GG) (C : CS) (M : MS) {n : Nat} (hle : n ≤ 12) (hn : mF M 0 = nI n) {t : Nat} (ht : t < n) {nm : Nat} (hnm3 : nm < 1000) (hnm : nameP (nI nm)) (hk : mA M 9 (1000 * t + nm) ≠ 0) (hK : Kn M t nm) : Ct l G yX5_read cX5_read 3 (some .int) 4 91 [.ref (zad G 12 0), .int (nI nm), .int (nI t)] C M (some (.int (mrfR M t nm))) C (mrfS M t nm) := by
  refine Ct_i (by decide) (Nat.le_of_ble_eq_true rfl) (fun {p e s m args below meth c A Q ls} hC hW hl hE => ?_)
  have hx := hC.1
  have hb := hC.2.1
  have hl : lv_has ls 3 [(0, .ref (zad G 12 0)), (1, .int (nI nm)), (2, .int (nI t))] := hl
  refine lv_iload_n hx hb dX5_read_0 rfl (lv_at hl 1 rfl) ?_
  refine z_callS (rest := []) (st1 := [.int (bI (nameP (nI nm)))]) hC hW (c_X5_isName l G C M (nI nm)) mw_X5_isName mT_X5_isName mM_X5_113 ⟨Nat.le_of_ble_eq_true rfl, Nat.le_of_ble_eq_true rfl⟩ rfl rfl hl.1 (lv_room (Nat.le_of_ble_eq_true rfl)) dX5_read_1 rfl (fun H locs hW => ?_) ⟨Nat.zero_le _, Nat.zero_le _⟩
  refine zb_eq (tgt := 15) hx hb (nameP (nI nm)) rfl dX5_read_4 (by decide) (fun h4 => ?_) (fun h4 => ?_)
  · exact absurd hnm h4
  · refine lv_aload_n hx hb dX5_read_7 rfl (lv_at hl 0 rfl) ?_
    refine lv_iload_n hx hb dX5_read_8 rfl (lv_at hl 2 rfl) ?_
    refine z_callV (As := [.int (nI t)]) (rest := []) (st1 := [.int (bI (¬ badT n (nI t)))]) hC hW LL_12 rfl rfl rfl (c_X5_isTape l G C M hle hn (nI t)) mw_X5_isTape mv_X5_isTape mM_X5_129 ⟨Nat.le_of_ble_eq_true rfl, Nat.le_of_ble_eq_true rfl⟩ rfl rfl hl.1 (lv_room (Nat.le_of_ble_eq_true rfl)) dX5_read_9 rfl (fun H locs hW => ?_) ⟨Nat.zero_le _, Nat.zero_le _⟩
    refine zb_ne (tgt := 17) hx hb (¬ badT n (nI t)) rfl dX5_read_12 (by decide) (fun h12 => ?_) (fun h12 => ?_)
    · refine lv_aload_n hx hb dX5_read_17 rfl (lv_at hl 0 rfl) ?_
      refine g12 (k := 9) (v := .ref (zad G 13 9)) hC hW (by decide) mF_X5_35 rfl dX5_read_18 ?_
      refine lv_sipush (v := 1000) hx hb dX5_read_21 (by decide) ?_
      refine lv_iload_n hx hb dX5_read_24 rfl (lv_at hl 2 rfl) ?_
      refine zi_mul (i := 1000) (j := t) hx hb rfl rfl dX5_read_25 ?_
      refine lv_iload_n hx hb dX5_read_26 rfl (lv_at hl 1 rfl) ?_
      refine zi_add (i := 1000 * t) (j := nm) hx hb rfl rfl dX5_read_27 ?_
      refine am (i := 1000 * t + nm) (n := 12000) hC hW (by decide) rfl rfl (rfl) (by omega) dX5_read_28 ?_
      refine lv_if_ne (tgt := 37) hx hb dX5_read_29 (by decide) (fun h29 => ?_) (fun h29 => ?_)
      · refine lv_aload_n hx hb dX5_read_37 rfl (lv_at hl 0 rfl) ?_
        refine lv_iload_n hx hb dX5_read_38 rfl (lv_at hl 1 rfl) ?_
        refine lv_iload_n hx hb dX5_read_39 rfl (lv_at hl 2 rfl) ?_
        refine z_callV (As := [.int (nI nm), .int (nI t)]) (rest := []) (st1 := [.int (mrfR M t nm)]) hC hW LL_12 rfl rfl rfl (m_rf l G C M (t := t) (nm := nm) (by omega) hnm3 hK) mw_X5_readFile mv_X5_readFile mM_X5_160 ⟨Nat.le_of_ble_eq_true rfl, Nat.le_of_ble_eq_true rfl⟩ rfl rfl hl.1 (lv_room (Nat.le_of_ble_eq_true rfl)) dX5_read_40 rfl (fun H locs hW => ?_) ⟨Nat.zero_le _, Nat.zero_le _⟩
        obtain ⟨M1, eM1⟩ : ∃ z_, z_ = mrfS M t nm := ⟨_, rfl⟩
        rw [← eM1] at hW
        rw [eM1] at hW
        exact hE hW rfl dX5_read_43
      · exact absurd h29 hk
    · exact absurd (not_bad hle ht) h12

set_option maxHeartbeats 4000000 in
set_option maxRecDepth 100000 in
theorem m_sal_n (l : Launch) (G : GG) (C : CS) (M : MS) {x : Int32} (hn : ¬ nameP x) : Ct l G yX5_salvage cX5_salvage 4 (some .int) 4 91 [.ref (zad G 12 0), .int x] C M (some (.int (-1))) C M := by
  refine Ct_i (by decide) (Nat.le_of_ble_eq_true rfl) (fun {p e s m args below meth c A Q ls} hC hW hl hE => ?_)
  have hx := hC.1
  have hb := hC.2.1
  have hl : lv_has ls 4 [(0, .ref (zad G 12 0)), (1, .int x)] := hl
  refine lv_iload_n hx hb dX5_salvage_0 rfl (lv_at hl 1 rfl) ?_
  refine z_callS (rest := []) (st1 := [.int (bI (nameP x))]) hC hW (c_X5_isName l G C M x) mw_X5_isName mT_X5_isName mM_X5_113 ⟨Nat.le_of_ble_eq_true rfl, Nat.le_of_ble_eq_true rfl⟩ rfl rfl hl.1 (lv_room (Nat.le_of_ble_eq_true rfl)) dX5_salvage_1 rfl (fun H locs hW => ?_) ⟨Nat.zero_le _, Nat.zero_le _⟩
  refine zb_ne (tgt := 9) hx hb (nameP x) rfl dX5_salvage_4 (by decide) (fun h4 => ?_) (fun h4 => ?_)
  · exact absurd h4 hn
  · refine lv_iconst (v := (-1)) hx hb dX5_salvage_7 (by decide) ?_
    have qr : ((-1) : Int32) = -1 := by simp [bI, h4, cF_sF, cN_sN, cB_sB, cM_sM, cN_sF, cB_sF, cM_sF, cF_sN, cB_sN, cM_sN, cF_sB, cN_sB, cM_sB, cF_sM, cN_sM, cB_sM, mF_smF, mA_smF, mF_smA, mA_smA]
    exact hE hW qr dX5_salvage_8

set_option maxHeartbeats 4000000 in
set_option maxRecDepth 100000 in
theorem m_sal_1 (l : Launch) (G : GG) (C : CS) (M : MS) {n : Nat} (hle : n ≤ 12) (hn : mF M 0 = nI n) {nm : Nat} (hnm3 : nm < 1000) (hnm : nameP (nI nm)) (hK : Kv M n nm) : Ct l G yX5_salvage cX5_salvage 4 (some .int) 4 91 [.ref (zad G 12 0), .int (nI nm)] C M (some (.int ((msvL nm n 0 (-2) M).1))) C ((msvL nm n 0 (-2) M).2) := by
  refine Ct_i (by decide) (Nat.le_of_ble_eq_true rfl) (fun {p e s m args below meth c A Q ls} hC hW hl hE => ?_)
  have hx := hC.1
  have hb := hC.2.1
  have hl : lv_has ls 4 [(0, .ref (zad G 12 0)), (1, .int (nI nm))] := hl
  refine lv_iload_n hx hb dX5_salvage_0 rfl (lv_at hl 1 rfl) ?_
  refine z_callS (rest := []) (st1 := [.int (bI (nameP (nI nm)))]) hC hW (c_X5_isName l G C M (nI nm)) mw_X5_isName mT_X5_isName mM_X5_113 ⟨Nat.le_of_ble_eq_true rfl, Nat.le_of_ble_eq_true rfl⟩ rfl rfl hl.1 (lv_room (Nat.le_of_ble_eq_true rfl)) dX5_salvage_1 rfl (fun H locs hW => ?_) ⟨Nat.zero_le _, Nat.zero_le _⟩
  refine zb_ne (tgt := 9) hx hb (nameP (nI nm)) rfl dX5_salvage_4 (by decide) (fun h4 => ?_) (fun h4 => ?_)
  · refine lv_bipush (v := (-2)) hx hb dX5_salvage_9 (by decide) ?_
    refine lv_istore_n (lv' := [(2, .int (-2)), (0, .ref (zad G 12 0)), (1, .int (nI nm))]) hx hb dX5_salvage_11 rfl hl (by decide) rfl (fun ls hl => ?_)
    refine lv_iconst (v := 0) hx hb dX5_salvage_12 (by decide) ?_
    refine lv_istore_n (lv' := [(3, .int 0), (2, .int (-2)), (0, .ref (zad G 12 0)), (1, .int (nI nm))]) hx hb dX5_salvage_13 rfl hl (by decide) rfl (fun ls hl => ?_)
    have lp : ∀ (k : Nat) (j : Nat) (u : Int32) (Mj : MS), j + k = n → mF Mj 0 = nI n → Kv Mj n nm → msvL nm k j u Mj = msvL nm n 0 (-2) M → ∀ (H : Heap) (locs : List Loc) (ls : Array Slot), Wd G s A s.heap H locs C Mj → lv_has ls 4 [(0, .ref (zad G 12 0)), (1, .int (nI nm)), (2, .int u), (3, .int (nI j))] → W p l e { frames := 4, cells := 0, slots := 0, locals := 91 } s m args below meth c H locs 0 0 Q (F0 m 14 ls []) := by
      intro k
      induction k with
      | zero =>
        intro j u Mj hk hnj hKv hD H locs ls hW hl
        refine lv_iload_n hx hb dX5_salvage_14 rfl (lv_at hl 3 rfl) ?_
        refine lv_aload_n hx hb dX5_salvage_15 rfl (lv_at hl 0 rfl) ?_
        refine g12 (k := 0) (v := .int (mF Mj 0)) hC hW (by decide) mF_X5_75 rfl dX5_salvage_16 ?_
        refine z_top (y := nI n) (hnj) ?_
        refine zc_ge (i := j) (j := n) (tgt := 62) hx hb rfl rfl (by omega) (by omega) dX5_salvage_19 (by decide) (fun h19 => ?_) (fun h19 => ?_)
        · refine lv_iload_n hx hb dX5_salvage_62 rfl (lv_at hl 2 rfl) ?_
          have hD2 : msvL nm n 0 (-2) M = (u, Mj) := by rw [← hD]; rfl
          rw [hD2] at hE
          exact hE hW rfl dX5_salvage_63
        · exact absurd h19 (by omega)
      | succ k ih =>
        intro j u Mj hk hnj hKv hD H locs ls hW hl
        refine lv_iload_n hx hb dX5_salvage_14 rfl (lv_at hl 3 rfl) ?_
        refine lv_aload_n hx hb dX5_salvage_15 rfl (lv_at hl 0 rfl) ?_
        refine g12 (k := 0) (v := .int (mF Mj 0)) hC hW (by decide) mF_X5_75 rfl dX5_salvage_16 ?_
        refine z_top (y := nI n) (hnj) ?_
        refine zc_ge (i := j) (j := n) (tgt := 62) hx hb rfl rfl (by omega) (by omega) dX5_salvage_19 (by decide) (fun h19 => ?_) (fun h19 => ?_)
        · exact absurd h19 (by omega)
        · refine lv_iload_n hx hb dX5_salvage_22 rfl (lv_at hl 2 rfl) ?_
          refine lv_bipush (v := (-4)) hx hb dX5_salvage_23 (by decide) ?_
          refine lv_icmp_eq (tgt := 62) hx hb dX5_salvage_25 (by decide) (fun h25 => ?_) (fun h25 => ?_)
          · refine lv_iload_n hx hb dX5_salvage_62 rfl (lv_at hl 2 rfl) ?_
            have hD2 : msvL nm n 0 (-2) M = (u, Mj) := by rw [← hD, msvL, if_pos h25]
            rw [hD2] at hE
            exact hE hW rfl dX5_salvage_63
          · refine lv_aload_n hx hb dX5_salvage_28 rfl (lv_at hl 0 rfl) ?_
            refine g12 (k := 9) (v := .ref (zad G 13 9)) hC hW (by decide) mF_X5_35 rfl dX5_salvage_29 ?_
            refine lv_sipush (v := 1000) hx hb dX5_salvage_32 (by decide) ?_
            refine lv_iload_n hx hb dX5_salvage_35 rfl (lv_at hl 3 rfl) ?_
            refine zi_mul (i := 1000) (j := j) hx hb rfl rfl dX5_salvage_36 ?_
            refine lv_iload_n hx hb dX5_salvage_37 rfl (lv_at hl 1 rfl) ?_
            refine zi_add (i := 1000 * j) (j := nm) hx hb rfl rfl dX5_salvage_38 ?_
            refine am (i := 1000 * j + nm) (n := 12000) hC hW (by decide) rfl rfl (rfl) (by omega) dX5_salvage_39 ?_
            refine lv_if_le (tgt := 56) hx hb dX5_salvage_40 (by decide) (fun h40 => ?_) (fun h40 => ?_)
            · refine lv_iinc (k := 3) (v := nI (j + 1)) (lv' := [(3, .int (nI (j + 1))), (0, .ref (zad G 12 0)), (1, .int (nI nm)), (2, .int u)]) hx hb dX5_salvage_56 hl rfl (nI_inc _) (by decide) rfl (fun ls hl => ?_)
              refine lv_goto (tgt := 14) hx hb dX5_salvage_59 (by decide) ?_
              exact ih (j + 1) u Mj (by omega) hnj hKv (by rw [← hD, msvL, if_neg h25, if_pos h40]) _ _ _ hW (lv_sub hl [1, 2, 3, 0] rfl)
            · refine lv_aload_n hx hb dX5_salvage_43 rfl (lv_at hl 0 rfl) ?_
              refine lv_iload_n hx hb dX5_salvage_44 rfl (lv_at hl 1 rfl) ?_
              refine lv_iload_n hx hb dX5_salvage_45 rfl (lv_at hl 3 rfl) ?_
              refine z_callV (As := [.int (nI nm), .int (nI j)]) (rest := []) (st1 := [.int (mrfR Mj j nm)]) hC hW LL_12 rfl rfl rfl (m_rf l G C Mj (t := j) (nm := nm) (by omega) hnm3 ((hKv j (by omega)).resolve_left (fun q => h40 (by rw [q]; decide)))) mw_X5_readFile mv_X5_readFile mM_X5_160 ⟨Nat.le_of_ble_eq_true rfl, Nat.le_of_ble_eq_true rfl⟩ rfl rfl hl.1 (lv_room (Nat.le_of_ble_eq_true rfl)) dX5_salvage_46 rfl (fun H locs hW => ?_) ⟨Nat.zero_le _, Nat.zero_le _⟩
              obtain ⟨M1, eM1⟩ : ∃ z_, z_ = mrfS Mj j nm := ⟨_, rfl⟩
              rw [← eM1] at hW
              refine lv_istore_n (lv' := [(2, .int (mrfR Mj j nm)), (0, .ref (zad G 12 0)), (1, .int (nI nm)), (3, .int (nI j))]) hx hb dX5_salvage_49 rfl hl (by decide) rfl (fun ls hl => ?_)
              refine lv_iload_n hx hb dX5_salvage_50 rfl (lv_at hl 0 rfl) ?_
              refine lv_if_lt (tgt := 56) hx hb dX5_salvage_51 (by decide) (fun h51 => ?_) (fun h51 => ?_)
              · refine lv_iinc (k := 3) (v := nI (j + 1)) (lv' := [(3, .int (nI (j + 1))), (2, .int (mrfR Mj j nm)), (0, .ref (zad G 12 0)), (1, .int (nI nm))]) hx hb dX5_salvage_56 hl rfl (nI_inc _) (by decide) rfl (fun ls hl => ?_)
                refine lv_goto (tgt := 14) hx hb dX5_salvage_59 (by decide) ?_
                exact ih (j + 1) (mrfR Mj j nm) M1 (by omega) (by rw [eM1, mrfS_0]; exact hnj) (by rw [eM1]; exact Kv_rf hKv) (by rw [← hD, msvL, if_neg h25, if_neg h40, if_pos h51, eM1]) _ _ _ hW (lv_sub hl [2, 3, 1, 0] rfl)
              · refine lv_iload_n hx hb dX5_salvage_54 rfl (lv_at hl 3 rfl) ?_
                have hD2 : msvL nm n 0 (-2) M = (nI j, M1) := by rw [← hD, msvL, if_neg h25, if_neg h40, if_neg h51, eM1]
                rw [hD2] at hE
                exact hE hW rfl dX5_salvage_55
    exact lp n 0 (-2) M (by omega) hn hK rfl _ _ _ hW (lv_sub hl [2, 3, 1, 0] rfl)
  · exact absurd hnm h4

