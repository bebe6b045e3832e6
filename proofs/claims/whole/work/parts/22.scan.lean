/-! ===== the reference: scan ===== -/
theorem smF_smF {M : MS} {k : Nat} {v w : Int32} : smF (smF M k v) k w = smF M k w := by
  refine Prod.ext ?_ rfl
  funext k'
  show mF (smF (smF M k v) k w) k' = mF (smF M k w) k'
  rw [mF_smF, mF_smF, mF_smF]
  by_cases h : k' = k
  · rw [if_pos h, if_pos h]
  · rw [if_neg h, if_neg h, if_neg h]
theorem J_F30 {M : MS} {mm d t q : Nat} {v : Int32} (h : Jm M mm d t q) (hv : v = 0 → mF M 30 = 0) : Jm (smF M 30 v) mm d t q := by
  obtain ⟨h1, h2, h3, h4, h5, h6⟩ := h
  exact ⟨h1, h2, h3, h4, fun z => h5 (hv z), h6⟩
def mscS (M : MS) (d t q : Nat) : MS := smF (mtak M 0 d t q) 30 (if mF (mtak M 0 d t q) 30 = -7 then 0 else mF (mtak M 0 d t q) 30)
def mscL (d t : Nat) : Nat → Nat → MS → MS
  | 0, _, M => M
  | k + 1, q, M => if mF M 30 ≠ 0 then M else mscL d t k (q + 1) (mscS M d t q)
abbrev isFp (M : MS) (t i e0 z : Nat) : Prop := if0 M (100 * t + i) e0 i z ∧ ifL M (100 * t + i) z (z + 1) 1 = true
def mliL (t e0 : Nat) : Nat → Nat → Nat → MS → Nat × MS
  | 0, _, n, M => (n, M)
  | k + 1, i, n, M => if isFp M t i e0 (mN M 7 (100 * t + i)) then mliL t e0 k (i + 1) (if mA M 9 (1000 * t + mN M 6 (100 * t + i)) = 0 then n + 1 else n) (smA M 9 (1000 * t + mN M 6 (100 * t + i)) (nI (i + 1))) else mliL t e0 k (i + 1) n M
def mscX (M : MS) (t e0 h d : Nat) : MS := mscL d t e0 0 (moD (mbeg M) 0 t h d)
def mscK (M : MS) (t e0 : Nat) : Nat × MS := if mF M 30 = 0 then mliL t e0 e0 0 0 (fgL t 1000 0 0 M).2 else (0, M)
def mscD (M : MS) (t e0 h d : Nat) : MS := munM (mscK (mscX M t e0 h d) t e0).2 0 d t
theorem J_scS {M : MS} {d t q : Nat} (h0 : mF M 30 = 0) (hq : q < 100) (h : Jm M 0 d t q) : Jm (mscS M d t q) 0 d t (q + 1) := by
  have hp := J_p0 h0 hq h
  have hw := mpas0_w (mm := 0) (d := d) (q := q) h0
  unfold mscS
  by_cases z : mF (mpas0 M 0 d q) 30 = 0
  · by_cases e : mA (mpas0 M 0 d q) 8 (100 * t + q) = 0
    · have e1 : mtak M 0 d t q = mpas0 M 0 d q := by unfold mtak; rw [if_pos z, if_pos e]
      rw [e1]; exact J_F30 hp (fun _ => z)
    · have e1 : mtak M 0 d t q = smF (mpas0 M 0 d q) 30 (-7) := by unfold mtak; rw [if_pos z, if_neg e]
      rw [e1, smF_smF]; exact J_F30 hp (fun _ => z)
  · have e1 : mtak M 0 d t q = mpas0 M 0 d q := by unfold mtak; rw [if_neg z]
    rw [e1]
    refine J_F30 hp (fun q => ?_)
    split at q
    · rename_i z7
      rw [z7] at hw
      split at hw
      · exact absurd hw (by decide)
      · split at hw <;> exact absurd hw (by decide)
    · exact q
/-- what listing wants of a tape -/
def Fm (M : MS) (t e0 : Nat) : Prop := mA M 2 t = nI e0 ∧ (∀ a, a < 100 → mA M 7 (100 * t + a) = nI (mN M 7 (100 * t + a)) ∧ mN M 7 (100 * t + a) ≤ 30) ∧ (∀ a, a < 100 → mA M 5 (100 * t + a) = 1 → mA M 6 (100 * t + a) = nI (mN M 6 (100 * t + a)) ∧ mN M 6 (100 * t + a) < 1000)
theorem Fm.of {M M' : MS} {t e0 : Nat} (h : Fm M t e0) (e : ∀ j i, j = 2 ∨ j = 5 ∨ j = 6 ∨ j = 7 → mA M' j i = mA M j i) : Fm M' t e0 := by
  unfold Fm mN
  refine ⟨by rw [e _ _ (by decide)]; exact h.1, fun a ha => ?_, fun a ha => ?_⟩
  · rw [e _ _ (by decide)]; exact h.2.1 a ha
  · rw [e _ _ (by decide), e _ _ (by decide)]; exact h.2.2 a ha
theorem mscS_A {M : MS} {d t q j i : Nat} (h : j ≠ 11 ∧ j ≠ 12 ∧ j ≠ 14 ∧ j ≠ 19) : mA (mscS M d t q) j i = mA M j i := by unfold mscS; rw [mA_smF, mtak_A h]
theorem mscL_A {d t j i : Nat} (h : j ≠ 11 ∧ j ≠ 12 ∧ j ≠ 14 ∧ j ≠ 19) : ∀ (k q : Nat) (M : MS), mA (mscL d t k q M) j i = mA M j i := by
  intro k
  induction k with
  | zero => intro q M; rfl
  | succ k ih =>
    intro q M; unfold mscL; split
    · rfl
    · rw [ih, mscS_A h]
theorem fgL_A {t j' i' : Nat} (h : j' ≠ 9) : ∀ (k j n : Nat) (M : MS), mA (fgL t k j n M).2 j' i' = mA M j' i' := by
  intro k
  induction k with
  | zero => intro j n M; rfl
  | succ k ih => intro j n M; unfold fgL; rw [ih, mA_nj h]
theorem fgL_F {t : Nat} : ∀ (k j n : Nat) (M : MS), mF (fgL t k j n M).2 = mF M := by
  intro k
  induction k with
  | zero => intro j n M; rfl
  | succ k ih => intro j n M; unfold fgL; rw [ih]; rfl
theorem Kp_fg {t mm k j n : Nat} {M : MS} : Kp M (fgL t k j n M).2 mm := ⟨fun j' h => fgL_A (by omega) _ _ _ _, fun z => by rw [fgL_F] at z; exact z⟩
theorem Fm_fg {t e0 k j n : Nat} {M : MS} (h : Fm M t e0) : Fm (fgL t k j n M).2 t e0 := h.of (fun _ _ q => fgL_A (by omega) _ _ _ _)

set_option maxHeartbeats 4000000 in
set_option maxRecDepth 100000 in
theorem m_sca_b (l : Launch) (G : GG) (C : CS) (M : MS) {n : Nat} (hle : n ≤ 12) (hn : mF M 0 = nI n) {x : Int32} (hbx : badT n x) : Ct l G yX5_scan cX5_scan 6 (some .int) 3 65 [.ref (zad G 12 0), .int x] C M (some (.int (-1))) C M := by
  refine Ct_i (by decide) (Nat.le_of_ble_eq_true rfl) (fun {p e s m args below meth c A Q ls} hC hW hl hE => ?_)
  have hx := hC.1
  have hb := hC.2.1
  have hl : lv_has ls 6 [(0, .ref (zad G 12 0)), (1, .int x)] := hl
  refine lv_aload_n hx hb dX5_scan_0 rfl (lv_at hl 0 rfl) ?_
  refine lv_iload_n hx hb dX5_scan_1 rfl (lv_at hl 1 rfl) ?_
  refine z_callV (As := [.int x]) (rest := []) (st1 := [.int (bI (¬ badT n x))]) hC hW LL_12 rfl rfl rfl (c_X5_isTape l G C M hle hn x) mw_X5_isTape mv_X5_isTape mM_X5_129 ⟨Nat.le_of_ble_eq_true rfl, Nat.le_of_ble_eq_true rfl⟩ rfl rfl hl.1 (lv_room (Nat.le_of_ble_eq_true rfl)) dX5_scan_2 rfl (fun H locs hW => ?_) ⟨Nat.zero_le _, Nat.zero_le _⟩
  refine zb_ne (tgt := 10) hx hb (¬ badT n x) rfl dX5_scan_5 (by decide) (fun h5 => ?_) (fun h5 => ?_)
  · exact absurd hbx h5
  · refine lv_iconst (v := (-1)) hx hb dX5_scan_8 (by decide) ?_
    have qr : ((-1) : Int32) = -1 := by simp [bI, h5, cF_sF, cN_sN, cB_sB, cM_sM, cN_sF, cB_sF, cM_sF, cF_sN, cB_sN, cM_sN, cF_sB, cN_sB, cM_sB, cF_sM, cN_sM, cB_sM, mF_smF, mA_smF, mF_smA, mA_smA]
    exact hE hW qr dX5_scan_9

set_option maxHeartbeats 4000000 in
set_option maxRecDepth 100000 in
theorem m_sca_n (l : Launch) (G : GG) (C : CS) (M : MS) {n : Nat} (hle : n ≤ 12) (hn : mF M 0 = nI n) {t : Nat} (ht : t < n) {e0 h : Nat} (he : mA M 2 t = nI e0) (he1 : e0 ≤ 100) (hh : mA M 1 t = nI h) (hh32 : h < 32) (hN : mdC M h = none) : Ct l G yX5_scan cX5_scan 6 (some .int) 3 65 [.ref (zad G 12 0), .int (nI t)] C M (some (.int (menR (moN (mbeg M) 0) 0))) C (menE (moN (mbeg M) 0)) := by
  refine Ct_i (by decide) (Nat.le_of_ble_eq_true rfl) (fun {p e s m args below meth c A Q ls} hC hW hl hE => ?_)
  have hx := hC.1
  have hb := hC.2.1
  have hl : lv_has ls 6 [(0, .ref (zad G 12 0)), (1, .int (nI t))] := hl
  refine lv_aload_n hx hb dX5_scan_0 rfl (lv_at hl 0 rfl) ?_
  refine lv_iload_n hx hb dX5_scan_1 rfl (lv_at hl 1 rfl) ?_
  refine z_callV (As := [.int (nI t)]) (rest := []) (st1 := [.int (bI (¬ badT n (nI t)))]) hC hW LL_12 rfl rfl rfl (c_X5_isTape l G C M hle hn (nI t)) mw_X5_isTape mv_X5_isTape mM_X5_129 ⟨Nat.le_of_ble_eq_true rfl, Nat.le_of_ble_eq_true rfl⟩ rfl rfl hl.1 (lv_room (Nat.le_of_ble_eq_true rfl)) dX5_scan_2 rfl (fun H locs hW => ?_) ⟨Nat.zero_le _, Nat.zero_le _⟩
  refine zb_ne (tgt := 10) hx hb (¬ badT n (nI t)) rfl dX5_scan_5 (by decide) (fun h5 => ?_) (fun h5 => ?_)
  · refine lv_aload_n hx hb dX5_scan_10 rfl (lv_at hl 0 rfl) ?_
    refine z_callV (As := []) (rest := []) (st1 := []) hC hW LL_12 rfl rfl rfl (c_X5_begin l G C M) mw_X5_begin mv_X5_begin mM_X5_132 ⟨Nat.le_of_ble_eq_true rfl, Nat.le_of_ble_eq_true rfl⟩ rfl rfl hl.1 (lv_room (Nat.le_of_ble_eq_true rfl)) dX5_scan_11 rfl (fun H locs hW => ?_) ⟨Nat.zero_le _, Nat.zero_le _⟩
    obtain ⟨M1, eM1⟩ : ∃ z_, z_ = mbeg M := ⟨_, rfl⟩
    rw [← eM1] at hW
    refine lv_aload_n hx hb dX5_scan_14 rfl (lv_at hl 0 rfl) ?_
    refine lv_iconst (v := 0) hx hb dX5_scan_15 (by decide) ?_
    refine lv_iload_n hx hb dX5_scan_16 rfl (lv_at hl 1 rfl) ?_
    refine z_callV (As := [.int 0, .int (nI t)]) (rest := []) (st1 := []) hC hW LL_12 rfl rfl rfl (c_mount_n l G C M1 (mm := 0) (by decide) (by rw [eM1]; rfl) (t := t) (h := h) (by omega) (by rw [eM1]; exact hh) hh32 (by rw [eM1]; exact hN)) mw_X5_mount mv_X5_mount mM_X5_135 ⟨Nat.le_of_ble_eq_true rfl, Nat.le_of_ble_eq_true rfl⟩ rfl rfl hl.1 (lv_room (Nat.le_of_ble_eq_true rfl)) dX5_scan_17 rfl (fun H locs hW => ?_) ⟨Nat.zero_le _, Nat.zero_le _⟩
    obtain ⟨M2, eM2⟩ : ∃ z_, z_ = moN M1 0 := ⟨_, rfl⟩
    rw [← eM2] at hW
    have hw2 : mF M2 30 ≠ 0 := by rw [eM2]; exact (show ¬ ((-3 : Int32) = 0) by decide)
    have hA2 : mA M2 = mA (smA (mo0 M 0) 15 0 (-1)) := by rw [eM2, eM1]; rfl
    refine lv_aload_n hx hb dX5_scan_20 rfl (lv_at hl 0 rfl) ?_
    refine g12 (k := 2) (v := .ref (zad G 13 2)) hC hW (by decide) mF_X5_13 rfl dX5_scan_21 ?_
    refine lv_iload_n hx hb dX5_scan_24 rfl (lv_at hl 1 rfl) ?_
    refine am (i := t) (n := 12) hC hW (by decide) rfl rfl (rfl) (by omega) dX5_scan_25 ?_
    refine z_top (y := nI e0) (by rw [hA2, mA_nj (by decide), mo0_A (by decide)]; exact he) ?_
    refine lv_istore_n (lv' := [(2, .int (nI e0)), (0, .ref (zad G 12 0)), (1, .int (nI t))]) hx hb dX5_scan_26 rfl hl (by decide) rfl (fun ls hl => ?_)
    refine lv_iconst (v := 0) hx hb dX5_scan_27 (by decide) ?_
    refine lv_istore_n (lv' := [(3, .int 0), (2, .int (nI e0)), (0, .ref (zad G 12 0)), (1, .int (nI t))]) hx hb dX5_scan_28 rfl hl (by decide) rfl (fun ls hl => ?_)
    refine lv_iload_n hx hb dX5_scan_29 rfl (lv_at hl 0 rfl) ?_
    refine lv_iload_n hx hb dX5_scan_30 rfl (lv_at hl 1 rfl) ?_
    refine zc_ge (i := 0) (j := e0) (tgt := 74) hx hb rfl rfl (by omega) (by omega) dX5_scan_31 (by decide) (fun h31 => ?_) (fun h31 => ?_)
    · refine lv_iconst (v := 0) hx hb dX5_scan_74 (by decide) ?_
      refine lv_istore_n (lv' := [(3, .int 0), (2, .int (nI e0)), (0, .ref (zad G 12 0)), (1, .int (nI t))]) hx hb dX5_scan_75 rfl hl (by decide) rfl (fun ls hl => ?_)
      refine lv_aload_n hx hb dX5_scan_76 rfl (lv_at hl 2 rfl) ?_
      refine g12 (k := 30) (v := .int (mF M2 30)) hC hW (by decide) mF_X5_82 rfl dX5_scan_77 ?_
      refine lv_if_ne (tgt := 163) hx hb dX5_scan_80 (by decide) (fun h80 => ?_) (fun h80 => ?_)
      · refine lv_aload_n hx hb dX5_scan_163 rfl (lv_at hl 2 rfl) ?_
        refine lv_iconst (v := 0) hx hb dX5_scan_164 (by decide) ?_
        refine z_callV (As := [.int 0]) (rest := []) (st1 := []) hC hW LL_12 rfl rfl rfl (c_X5_unmount_n l G C M2 (mm := 0) (by decide) (by rw [hA2, mA_self])) mw_X5_unmount mv_X5_unmount mM_X5_149 ⟨Nat.le_of_ble_eq_true rfl, Nat.le_of_ble_eq_true rfl⟩ rfl rfl hl.1 (lv_room (Nat.le_of_ble_eq_true rfl)) dX5_scan_165 rfl (fun H locs hW => ?_) ⟨Nat.zero_le _, Nat.zero_le _⟩
        refine lv_aload_n hx hb dX5_scan_168 rfl (lv_at hl 2 rfl) ?_
        refine lv_iload_n hx hb dX5_scan_169 rfl (lv_at hl 0 rfl) ?_
        refine z_callV (As := [.int 0]) (rest := []) (st1 := [.int (menR M2 0)]) hC hW LL_12 rfl rfl rfl (c_X5_ended l G C M2 0) mw_X5_ended mv_X5_ended mM_X5_153 ⟨Nat.le_of_ble_eq_true rfl, Nat.le_of_ble_eq_true rfl⟩ rfl rfl hl.1 (lv_room (Nat.le_of_ble_eq_true rfl)) dX5_scan_170 rfl (fun H locs hW => ?_) ⟨Nat.zero_le _, Nat.zero_le _⟩
        obtain ⟨M3, eM3⟩ : ∃ z_, z_ = menE M2 := ⟨_, rfl⟩
        rw [← eM3] at hW
        rw [eM3, eM2, eM1] at hW
        exact hE hW (by rw [eM2, eM1]) dX5_scan_173
      · exact absurd h80 hw2
    · refine lv_aload_n hx hb dX5_scan_34 rfl (lv_at hl 2 rfl) ?_
      refine g12 (k := 30) (v := .int (mF M2 30)) hC hW (by decide) mF_X5_82 rfl dX5_scan_35 ?_
      refine lv_if_ne (tgt := 74) hx hb dX5_scan_38 (by decide) (fun h38 => ?_) (fun h38 => ?_)
      · refine lv_iconst (v := 0) hx hb dX5_scan_74 (by decide) ?_
        refine lv_istore_n (lv' := [(3, .int 0), (2, .int (nI e0)), (0, .ref (zad G 12 0)), (1, .int (nI t))]) hx hb dX5_scan_75 rfl hl (by decide) rfl (fun ls hl => ?_)
        refine lv_aload_n hx hb dX5_scan_76 rfl (lv_at hl 2 rfl) ?_
        refine g12 (k := 30) (v := .int (mF M2 30)) hC hW (by decide) mF_X5_82 rfl dX5_scan_77 ?_
        refine lv_if_ne (tgt := 163) hx hb dX5_scan_80 (by decide) (fun h80 => ?_) (fun h80 => ?_)
        · refine lv_aload_n hx hb dX5_scan_163 rfl (lv_at hl 2 rfl) ?_
          refine lv_iconst (v := 0) hx hb dX5_scan_164 (by decide) ?_
          refine z_callV (As := [.int 0]) (rest := []) (st1 := []) hC hW LL_12 rfl rfl rfl (c_X5_unmount_n l G C M2 (mm := 0) (by decide) (by rw [hA2, mA_self])) mw_X5_unmount mv_X5_unmount mM_X5_149 ⟨Nat.le_of_ble_eq_true rfl, Nat.le_of_ble_eq_true rfl⟩ rfl rfl hl.1 (lv_room (Nat.le_of_ble_eq_true rfl)) dX5_scan_165 rfl (fun H locs hW => ?_) ⟨Nat.zero_le _, Nat.zero_le _⟩
          refine lv_aload_n hx hb dX5_scan_168 rfl (lv_at hl 2 rfl) ?_
          refine lv_iload_n hx hb dX5_scan_169 rfl (lv_at hl 0 rfl) ?_
          refine z_callV (As := [.int 0]) (rest := []) (st1 := [.int (menR M2 0)]) hC hW LL_12 rfl rfl rfl (c_X5_ended l G C M2 0) mw_X5_ended mv_X5_ended mM_X5_153 ⟨Nat.le_of_ble_eq_true rfl, Nat.le_of_ble_eq_true rfl⟩ rfl rfl hl.1 (lv_room (Nat.le_of_ble_eq_true rfl)) dX5_scan_170 rfl (fun H locs hW => ?_) ⟨Nat.zero_le _, Nat.zero_le _⟩
          obtain ⟨M4, eM4⟩ : ∃ z_, z_ = menE M2 := ⟨_, rfl⟩
          rw [← eM4] at hW
          rw [eM4, eM2, eM1] at hW
          exact hE hW (by rw [eM2, eM1]) dX5_scan_173
        · exact absurd h80 hw2
      · exact absurd h38 hw2
  · exact absurd (not_bad hle ht) h5

set_option maxHeartbeats 4000000 in
set_option maxRecDepth 100000 in
theorem m_sca_s (l : Launch) (G : GG) (C : CS) (M : MS) {n : Nat} (hle : n ≤ 12) (hn : mF M 0 = nI n) {t : Nat} (ht : t < n) {e0 h : Nat} (he : mA M 2 t = nI e0) (he1 : e0 ≤ 100) (hh : mA M 1 t = nI h) (hh32 : h < 32) (hF : Fm M t e0) {d : Nat} (hN : mdC M h = some d) : Ct l G yX5_scan cX5_scan 6 (some .int) 3 65 [.ref (zad G 12 0), .int (nI t)] C M (some (.int (menR (mscD M t e0 h d) (nI (mscK (mscX M t e0 h d) t e0).1)))) C (menE (mscD M t e0 h d)) := by
  refine Ct_i (by decide) (Nat.le_of_ble_eq_true rfl) (fun {p e s m args below meth c A Q ls} hC hW hl hE => ?_)
  have hx := hC.1
  have hb := hC.2.1
  have hl : lv_has ls 6 [(0, .ref (zad G 12 0)), (1, .int (nI t))] := hl
  refine lv_aload_n hx hb dX5_scan_0 rfl (lv_at hl 0 rfl) ?_
  refine lv_iload_n hx hb dX5_scan_1 rfl (lv_at hl 1 rfl) ?_
  refine z_callV (As := [.int (nI t)]) (rest := []) (st1 := [.int (bI (¬ badT n (nI t)))]) hC hW LL_12 rfl rfl rfl (c_X5_isTape l G C M hle hn (nI t)) mw_X5_isTape mv_X5_isTape mM_X5_129 ⟨Nat.le_of_ble_eq_true rfl, Nat.le_of_ble_eq_true rfl⟩ rfl rfl hl.1 (lv_room (Nat.le_of_ble_eq_true rfl)) dX5_scan_2 rfl (fun H locs hW => ?_) ⟨Nat.zero_le _, Nat.zero_le _⟩
  refine zb_ne (tgt := 10) hx hb (¬ badT n (nI t)) rfl dX5_scan_5 (by decide) (fun h5 => ?_) (fun h5 => ?_)
  · refine lv_aload_n hx hb dX5_scan_10 rfl (lv_at hl 0 rfl) ?_
    refine z_callV (As := []) (rest := []) (st1 := []) hC hW LL_12 rfl rfl rfl (c_X5_begin l G C M) mw_X5_begin mv_X5_begin mM_X5_132 ⟨Nat.le_of_ble_eq_true rfl, Nat.le_of_ble_eq_true rfl⟩ rfl rfl hl.1 (lv_room (Nat.le_of_ble_eq_true rfl)) dX5_scan_11 rfl (fun H locs hW => ?_) ⟨Nat.zero_le _, Nat.zero_le _⟩
    obtain ⟨M1, eM1⟩ : ∃ z_, z_ = mbeg M := ⟨_, rfl⟩
    rw [← eM1] at hW
    refine lv_aload_n hx hb dX5_scan_14 rfl (lv_at hl 0 rfl) ?_
    refine lv_iconst (v := 0) hx hb dX5_scan_15 (by decide) ?_
    refine lv_iload_n hx hb dX5_scan_16 rfl (lv_at hl 1 rfl) ?_
    refine z_callV (As := [.int 0, .int (nI t)]) (rest := []) (st1 := []) hC hW LL_12 rfl rfl rfl (c_mount_s l G C M1 (mm := 0) (by decide) (by rw [eM1]; rfl) (t := t) (h := h) (by omega) (by rw [eM1]; exact hh) hh32 (by rw [eM1]; exact hN)) mw_X5_mount mv_X5_mount mM_X5_135 ⟨Nat.le_of_ble_eq_true rfl, Nat.le_of_ble_eq_true rfl⟩ rfl rfl hl.1 (lv_room (Nat.le_of_ble_eq_true rfl)) dX5_scan_17 rfl (fun H locs hW => ?_) ⟨Nat.zero_le _, Nat.zero_le _⟩
    obtain ⟨M2, eM2⟩ : ∃ z_, z_ = moD M1 0 t h d := ⟨_, rfl⟩
    rw [← eM2] at hW
    have hJ2 : Jm M2 0 d t 0 := by rw [eM2]; exact J_mo (by omega) (md_some hN).1
    have hA2 : ∀ j i, (j ≠ 3 ∧ j ≠ 10 ∧ j ≠ 13) → j < 15 → mA M2 j i = mA M j i := fun j i h1 h2 => by rw [eM2, moD_A h1 (Or.inl h2), eM1]; rfl
    have hX2 : mscL d t e0 0 M2 = mscX M t e0 h d := by unfold mscX; rw [eM2, eM1]
    refine lv_aload_n hx hb dX5_scan_20 rfl (lv_at hl 0 rfl) ?_
    refine g12 (k := 2) (v := .ref (zad G 13 2)) hC hW (by decide) mF_X5_13 rfl dX5_scan_21 ?_
    refine lv_iload_n hx hb dX5_scan_24 rfl (lv_at hl 1 rfl) ?_
    refine am (i := t) (n := 12) hC hW (by decide) rfl rfl (rfl) (by omega) dX5_scan_25 ?_
    refine z_top (y := nI e0) (by rw [hA2 _ _ (by decide) (by decide)]; exact he) ?_
    refine lv_istore_n (lv' := [(2, .int (nI e0)), (0, .ref (zad G 12 0)), (1, .int (nI t))]) hx hb dX5_scan_26 rfl hl (by decide) rfl (fun ls hl => ?_)
    have J : ∀ (q : Nat) (Mx : MS), Jm Mx 0 d t q → mscX M t e0 h d = Mx → ∀ (H : Heap) (locs : List Loc) (ls : Array Slot), Wd G s A s.heap H locs C Mx → lv_has ls 6 [(0, .ref (zad G 12 0)), (1, .int (nI t)), (2, .int (nI e0))] → W p l e { frames := 3, cells := 0, slots := 0, locals := 65 } s m args below meth c H locs 0 0 Q (F0 m 74 ls []) := by
      intro q Mx hJx hQ H locs ls hW hl
      have hAx : ∀ j i, (j ≠ 3 ∧ j ≠ 4 ∧ j < 10) → mA Mx j i = mA M j i := fun j i h1 => by rw [← hQ]; unfold mscX; rw [mscL_A (by omega), moD_A (by omega) (Or.inl (by omega))]; rfl
      have hFx : Fm Mx t e0 := hF.of (fun j i q => hAx j i (by omega))
      refine lv_iconst (v := 0) hx hb dX5_scan_74 (by decide) ?_
      refine lv_istore_n (lv' := [(3, .int 0), (0, .ref (zad G 12 0)), (1, .int (nI t)), (2, .int (nI e0))]) hx hb dX5_scan_75 rfl hl (by decide) rfl (fun ls hl => ?_)
      refine lv_aload_n hx hb dX5_scan_76 rfl (lv_at hl 1 rfl) ?_
      refine g12 (k := 30) (v := .int (mF Mx 30)) hC hW (by decide) mF_X5_82 rfl dX5_scan_77 ?_
      refine lv_if_ne (tgt := 163) hx hb dX5_scan_80 (by decide) (fun h80 => ?_) (fun h80 => ?_)
      · refine lv_aload_n hx hb dX5_scan_163 rfl (lv_at hl 1 rfl) ?_
        refine lv_iconst (v := 0) hx hb dX5_scan_164 (by decide) ?_
        refine z_callV (As := [.int 0]) (rest := []) (st1 := []) hC hW LL_12 rfl rfl rfl (c_unmount l G C Mx (mm := 0) (by decide) hJx.U) mw_X5_unmount mv_X5_unmount mM_X5_149 ⟨Nat.le_of_ble_eq_true rfl, Nat.le_of_ble_eq_true rfl⟩ rfl rfl hl.1 (lv_room (Nat.le_of_ble_eq_true rfl)) dX5_scan_165 rfl (fun H locs hW => ?_) ⟨Nat.zero_le _, Nat.zero_le _⟩
        obtain ⟨M3, eM3⟩ : ∃ z_, z_ = munM Mx 0 d t := ⟨_, rfl⟩
        rw [← eM3] at hW
        refine lv_aload_n hx hb dX5_scan_168 rfl (lv_at hl 1 rfl) ?_
        refine lv_iload_n hx hb dX5_scan_169 rfl (lv_at hl 0 rfl) ?_
        refine z_callV (As := [.int 0]) (rest := []) (st1 := [.int (menR M3 0)]) hC hW LL_12 rfl rfl rfl (c_X5_ended l G C M3 0) mw_X5_ended mv_X5_ended mM_X5_153 ⟨Nat.le_of_ble_eq_true rfl, Nat.le_of_ble_eq_true rfl⟩ rfl rfl hl.1 (lv_room (Nat.le_of_ble_eq_true rfl)) dX5_scan_170 rfl (fun H locs hW => ?_) ⟨Nat.zero_le _, Nat.zero_le _⟩
        obtain ⟨M4, eM4⟩ : ∃ z_, z_ = menE M3 := ⟨_, rfl⟩
        rw [← eM4] at hW
        have hK9 : mscK (mscX M t e0 h d) t e0 = (0, Mx) := by rw [hQ]; unfold mscK; rw [if_neg h80]
        have hD9 : mscD M t e0 h d = M3 := by unfold mscD; rw [hK9, eM3]
        rw [eM4] at hW
        rw [hD9, hK9] at hE
        exact hE hW rfl dX5_scan_173
      · refine lv_aload_n hx hb dX5_scan_83 rfl (lv_at hl 1 rfl) ?_
        refine lv_iload_n hx hb dX5_scan_84 rfl (lv_at hl 2 rfl) ?_
        refine z_callV (As := [.int (nI t)]) (rest := []) (st1 := [.int (nI ((fgL t 1000 0 0 Mx).1))]) hC hW LL_12 rfl rfl rfl (c_X5_forget l G C Mx (t := t) (by omega)) mw_X5_forget mv_X5_forget mM_X5_163 ⟨Nat.le_of_ble_eq_true rfl, Nat.le_of_ble_eq_true rfl⟩ rfl rfl hl.1 (lv_room (Nat.le_of_ble_eq_true rfl)) dX5_scan_85 rfl (fun H locs hW => ?_) ⟨Nat.zero_le _, Nat.zero_le _⟩
        obtain ⟨M5, eM5⟩ : ∃ z_, z_ = (fgL t 1000 0 0 Mx).2 := ⟨_, rfl⟩
        rw [← eM5] at hW
        have hFg : Fm M5 t e0 := by rw [eM5]; exact Fm_fg hFx
        have hJg : Jm M5 0 d t q := by rw [eM5]; exact Kp_fg.J hJx
        have hK : mscK Mx t e0 = mliL t e0 e0 0 0 M5 := by unfold mscK; rw [if_pos h80, eM5]
        refine lv_pop hx hb dX5_scan_88 rfl ?_
        refine lv_iconst (v := 0) hx hb dX5_scan_89 (by decide) ?_
        refine lv_istore (lv' := [(4, .int 0), (3, .int 0), (0, .ref (zad G 12 0)), (1, .int (nI t)), (2, .int (nI e0))]) hx hb dX5_scan_90 hl (by decide) rfl (fun ls hl => ?_)
        have lp2 : ∀ (k : Nat) (i : Nat) (u : Nat) (Mi : MS), i + k = e0 → Fm Mi t e0 → Jm Mi 0 d t q → mliL t e0 k i u Mi = mscK Mx t e0 → ∀ (H : Heap) (locs : List Loc) (ls : Array Slot), Wd G s A s.heap H locs C Mi → lv_has ls 6 [(0, .ref (zad G 12 0)), (1, .int (nI t)), (2, .int (nI e0)), (3, .int (nI u)), (4, .int (nI i))] → W p l e { frames := 3, cells := 0, slots := 0, locals := 65 } s m args below meth c H locs 0 0 Q (F0 m 92 ls []) := by
          intro k
          induction k with
          | zero =>
            intro i u Mi hk2 hFi hJi hE2 H locs ls hW hl
            refine lv_iload hx hb dX5_scan_92 (lv_at hl 4 rfl) ?_
            refine lv_iload_n hx hb dX5_scan_94 rfl (lv_at hl 2 rfl) ?_
            refine zc_ge (i := i) (j := e0) (tgt := 163) hx hb rfl rfl (by omega) (by omega) dX5_scan_95 (by decide) (fun h95 => ?_) (fun h95 => ?_)
            · refine lv_aload_n hx hb dX5_scan_163 rfl (lv_at hl 0 rfl) ?_
              refine lv_iconst (v := 0) hx hb dX5_scan_164 (by decide) ?_
              refine z_callV (As := [.int 0]) (rest := []) (st1 := []) hC hW LL_12 rfl rfl rfl (c_unmount l G C Mi (mm := 0) (by decide) hJi.U) mw_X5_unmount mv_X5_unmount mM_X5_149 ⟨Nat.le_of_ble_eq_true rfl, Nat.le_of_ble_eq_true rfl⟩ rfl rfl hl.1 (lv_room (Nat.le_of_ble_eq_true rfl)) dX5_scan_165 rfl (fun H locs hW => ?_) ⟨Nat.zero_le _, Nat.zero_le _⟩
              obtain ⟨M6, eM6⟩ : ∃ z_, z_ = munM Mi 0 d t := ⟨_, rfl⟩
              rw [← eM6] at hW
              refine lv_aload_n hx hb dX5_scan_168 rfl (lv_at hl 0 rfl) ?_
              refine lv_iload_n hx hb dX5_scan_169 rfl (lv_at hl 3 rfl) ?_
              refine z_callV (As := [.int (nI u)]) (rest := []) (st1 := [.int (menR M6 (nI u))]) hC hW LL_12 rfl rfl rfl (c_X5_ended l G C M6 (nI u)) mw_X5_ended mv_X5_ended mM_X5_153 ⟨Nat.le_of_ble_eq_true rfl, Nat.le_of_ble_eq_true rfl⟩ rfl rfl hl.1 (lv_room (Nat.le_of_ble_eq_true rfl)) dX5_scan_170 rfl (fun H locs hW => ?_) ⟨Nat.zero_le _, Nat.zero_le _⟩
              obtain ⟨M7, eM7⟩ : ∃ z_, z_ = menE M6 := ⟨_, rfl⟩
              rw [← eM7] at hW
              have hK9 : mscK (mscX M t e0 h d) t e0 = (u, Mi) := by rw [hQ]; rw [← hE2]; rfl
              have hD9 : mscD M t e0 h d = M6 := by unfold mscD; rw [hK9, eM6]
              rw [eM7] at hW
              rw [hD9, hK9] at hE
              exact hE hW rfl dX5_scan_173
            · exact absurd h95 (by omega)
          | succ k ih =>
            intro i u Mi hk2 hFi hJi hE2 H locs ls hW hl
            refine lv_iload hx hb dX5_scan_92 (lv_at hl 4 rfl) ?_
            refine lv_iload_n hx hb dX5_scan_94 rfl (lv_at hl 2 rfl) ?_
            refine zc_ge (i := i) (j := e0) (tgt := 163) hx hb rfl rfl (by omega) (by omega) dX5_scan_95 (by decide) (fun h95 => ?_) (fun h95 => ?_)
            · exact absurd h95 (by omega)
            · refine lv_aload_n hx hb dX5_scan_98 rfl (lv_at hl 0 rfl) ?_
              refine lv_iload_n hx hb dX5_scan_99 rfl (lv_at hl 1 rfl) ?_
              refine lv_iload hx hb dX5_scan_100 (lv_at hl 4 rfl) ?_
              refine z_callV (As := [.int (nI t), .int (nI i)]) (rest := []) (st1 := [.int (bI (isFp Mi t i e0 (mN Mi 7 (100 * t + i))))]) hC hW LL_12 rfl rfl rfl (c_X5_isFile l G C Mi (t := t) (q := i) (z := mN Mi 7 (100 * t + i)) (by omega) (by omega) (hFi.2.1 i (by omega)).1 (hFi.2.1 i (by omega)).2 hFi.1 he1) mw_X5_isFile mv_X5_isFile mM_X5_166 ⟨Nat.le_of_ble_eq_true rfl, Nat.le_of_ble_eq_true rfl⟩ rfl rfl hl.1 (lv_room (Nat.le_of_ble_eq_true rfl)) dX5_scan_102 rfl (fun H locs hW => ?_) ⟨Nat.zero_le _, Nat.zero_le _⟩
              refine zb_eq (tgt := 157) hx hb (isFp Mi t i e0 (mN Mi 7 (100 * t + i))) rfl dX5_scan_105 (by decide) (fun h105 => ?_) (fun h105 => ?_)
              · refine lv_iinc (k := 4) (v := nI (i + 1)) (lv' := [(4, .int (nI (i + 1))), (0, .ref (zad G 12 0)), (1, .int (nI t)), (2, .int (nI e0)), (3, .int (nI u))]) hx hb dX5_scan_157 hl rfl (nI_inc _) (by decide) rfl (fun ls hl => ?_)
                refine lv_goto (tgt := 92) hx hb dX5_scan_160 (by decide) ?_
                exact ih (i + 1) u Mi (by omega) hFi hJi (by rw [← hE2, mliL, if_neg h105]) _ _ _ hW (lv_sub hl [1, 2, 3, 4, 0] rfl)
              · have hnb := hFi.2.2 i (by omega) h105.1.1
                refine lv_sipush (v := 1000) hx hb dX5_scan_108 (by decide) ?_
                refine lv_iload_n hx hb dX5_scan_111 rfl (lv_at hl 1 rfl) ?_
                refine zi_mul (i := 1000) (j := t) hx hb rfl rfl dX5_scan_112 ?_
                refine lv_aload_n hx hb dX5_scan_113 rfl (lv_at hl 0 rfl) ?_
                refine g12 (k := 6) (v := .ref (zad G 13 6)) hC hW (by decide) mF_X5_25 rfl dX5_scan_114 ?_
                refine lv_bipush (v := 100) hx hb dX5_scan_117 (by decide) ?_
                refine lv_iload_n hx hb dX5_scan_119 rfl (lv_at hl 1 rfl) ?_
                refine zi_mul (i := 100) (j := t) hx hb rfl rfl dX5_scan_120 ?_
                refine lv_iload hx hb dX5_scan_121 (lv_at hl 4 rfl) ?_
                refine zi_add (i := 100 * t) (j := i) hx hb rfl rfl dX5_scan_123 ?_
                refine am (i := 100 * t + i) (n := 1200) hC hW (by decide) rfl rfl (rfl) (by omega) dX5_scan_124 ?_
                refine z_top (y := nI (mN Mi 6 (100 * t + i))) (hnb.1) ?_
                refine zi_add (i := 1000 * t) (j := mN Mi 6 (100 * t + i)) hx hb rfl rfl dX5_scan_125 ?_
                refine lv_istore (lv' := [(5, .int (nI (1000 * t + (mN Mi 6 (100 * t + i))))), (0, .ref (zad G 12 0)), (1, .int (nI t)), (2, .int (nI e0)), (3, .int (nI u)), (4, .int (nI i))]) hx hb dX5_scan_126 hl (by decide) rfl (fun ls hl => ?_)
                refine lv_aload_n hx hb dX5_scan_128 rfl (lv_at hl 1 rfl) ?_
                refine g12 (k := 9) (v := .ref (zad G 13 9)) hC hW (by decide) mF_X5_35 rfl dX5_scan_129 ?_
                refine lv_iload hx hb dX5_scan_132 (lv_at hl 0 rfl) ?_
                refine am (i := 1000 * t + (mN Mi 6 (100 * t + i))) (n := 12000) hC hW (by decide) rfl rfl (rfl) (by omega) dX5_scan_134 ?_
                refine lv_if_ne (tgt := 144) hx hb dX5_scan_135 (by decide) (fun h135 => ?_) (fun h135 => ?_)
                · refine lv_iload_n hx hb dX5_scan_144 rfl (lv_at hl 4 rfl) ?_
                  refine lv_istore_n (lv' := [(3, .int (nI u)), (5, .int (nI (1000 * t + (mN Mi 6 (100 * t + i))))), (0, .ref (zad G 12 0)), (1, .int (nI t)), (2, .int (nI e0)), (4, .int (nI i))]) hx hb dX5_scan_145 rfl hl (by decide) rfl (fun ls hl => ?_)
                  refine lv_aload_n hx hb dX5_scan_146 rfl (lv_at hl 2 rfl) ?_
                  refine g12 (k := 9) (v := .ref (zad G 13 9)) hC hW (by decide) mF_X5_35 rfl dX5_scan_147 ?_
                  refine lv_iload hx hb dX5_scan_150 (lv_at hl 1 rfl) ?_
                  refine lv_iload hx hb dX5_scan_152 (lv_at hl 5 rfl) ?_
                  refine lv_iconst (v := 1) hx hb dX5_scan_154 (by decide) ?_
                  refine zi_add (i := i) (j := 1) hx hb rfl rfl dX5_scan_155 ?_
                  refine sm (i := 1000 * t + (mN Mi 6 (100 * t + i))) (n := 12000) (v := nI (i + 1)) hC hW (by decide) rfl rfl (rfl) (by omega) dX5_scan_156 (fun _ eS H locs hW => ?_)
                  subst eS
                  refine lv_iinc (k := 5) (v := nI (i + 1)) (lv' := [(4, .int (nI (i + 1))), (3, .int (nI u)), (5, .int (nI (1000 * t + (mN Mi 6 (100 * t + i))))), (0, .ref (zad G 12 0)), (1, .int (nI t)), (2, .int (nI e0))]) hx hb dX5_scan_157 hl rfl (nI_inc _) (by decide) rfl (fun ls hl => ?_)
                  refine lv_goto (tgt := 92) hx hb dX5_scan_160 (by decide) ?_
                  exact ih (i + 1) u (smA Mi 9 (1000 * t + (mN Mi 6 (100 * t + i))) (nI (i + 1))) (by omega) (hFi.of (fun j i q => mA_nj (by omega))) ((Kp_A (Or.inl (by decide))).J hJi) (by rw [← hE2, mliL, if_pos h105, if_neg h135]) _ _ _ hW (lv_sub hl [3, 4, 5, 1, 0] rfl)
                · refine lv_iload_n hx hb dX5_scan_138 rfl (lv_at hl 4 rfl) ?_
                  refine lv_iconst (v := 1) hx hb dX5_scan_139 (by decide) ?_
                  refine zi_add (i := u) (j := 1) hx hb rfl rfl dX5_scan_140 ?_
                  refine lv_goto (tgt := 145) hx hb dX5_scan_141 (by decide) ?_
                  refine lv_istore_n (lv' := [(3, .int (nI (u + 1))), (5, .int (nI (1000 * t + (mN Mi 6 (100 * t + i))))), (0, .ref (zad G 12 0)), (1, .int (nI t)), (2, .int (nI e0)), (4, .int (nI i))]) hx hb dX5_scan_145 rfl hl (by decide) rfl (fun ls hl => ?_)
                  refine lv_aload_n hx hb dX5_scan_146 rfl (lv_at hl 2 rfl) ?_
                  refine g12 (k := 9) (v := .ref (zad G 13 9)) hC hW (by decide) mF_X5_35 rfl dX5_scan_147 ?_
                  refine lv_iload hx hb dX5_scan_150 (lv_at hl 1 rfl) ?_
                  refine lv_iload hx hb dX5_scan_152 (lv_at hl 5 rfl) ?_
                  refine lv_iconst (v := 1) hx hb dX5_scan_154 (by decide) ?_
                  refine zi_add (i := i) (j := 1) hx hb rfl rfl dX5_scan_155 ?_
                  refine sm (i := 1000 * t + (mN Mi 6 (100 * t + i))) (n := 12000) (v := nI (i + 1)) hC hW (by decide) rfl rfl (rfl) (by omega) dX5_scan_156 (fun _ eS H locs hW => ?_)
                  subst eS
                  refine lv_iinc (k := 5) (v := nI (i + 1)) (lv' := [(4, .int (nI (i + 1))), (3, .int (nI (u + 1))), (5, .int (nI (1000 * t + (mN Mi 6 (100 * t + i))))), (0, .ref (zad G 12 0)), (1, .int (nI t)), (2, .int (nI e0))]) hx hb dX5_scan_157 hl rfl (nI_inc _) (by decide) rfl (fun ls hl => ?_)
                  refine lv_goto (tgt := 92) hx hb dX5_scan_160 (by decide) ?_
                  exact ih (i + 1) (u + 1) (smA Mi 9 (1000 * t + (mN Mi 6 (100 * t + i))) (nI (i + 1))) (by omega) (hFi.of (fun j i q => mA_nj (by omega))) ((Kp_A (Or.inl (by decide))).J hJi) (by rw [← hE2, mliL, if_pos h105, if_pos h135]) _ _ _ hW (lv_sub hl [3, 4, 5, 1, 0] rfl)
        exact lp2 e0 0 0 M5 (by omega) hFg hJg hK.symm _ _ _ hW (lv_sub hl [2, 3, 4, 1, 0] rfl)
    refine lv_iconst (v := 0) hx hb dX5_scan_27 (by decide) ?_
    refine lv_istore_n (lv' := [(3, .int 0), (2, .int (nI e0)), (0, .ref (zad G 12 0)), (1, .int (nI t))]) hx hb dX5_scan_28 rfl hl (by decide) rfl (fun ls hl => ?_)
    have lp : ∀ (k : Nat) (i : Nat) (Mj : MS), i + k = e0 → Jm Mj 0 d t i → mscL d t k i Mj = mscX M t e0 h d → ∀ (H : Heap) (locs : List Loc) (ls : Array Slot), Wd G s A s.heap H locs C Mj → lv_has ls 6 [(0, .ref (zad G 12 0)), (1, .int (nI t)), (2, .int (nI e0)), (3, .int (nI i))] → W p l e { frames := 3, cells := 0, slots := 0, locals := 65 } s m args below meth c H locs 0 0 Q (F0 m 29 ls []) := by
      intro k
      induction k with
      | zero =>
        intro i Mj hk hJj hD H locs ls hW hl
        refine lv_iload_n hx hb dX5_scan_29 rfl (lv_at hl 3 rfl) ?_
        refine lv_iload_n hx hb dX5_scan_30 rfl (lv_at hl 2 rfl) ?_
        refine zc_ge (i := i) (j := e0) (tgt := 74) hx hb rfl rfl (by omega) (by omega) dX5_scan_31 (by decide) (fun h31 => ?_) (fun h31 => ?_)
        · exact J i Mj hJj (by rw [← hD]; rfl) _ _ _ hW (lv_sub hl [0, 1, 2] rfl)
        · exact absurd h31 (by omega)
      | succ k ih =>
        intro i Mj hk hJj hD H locs ls hW hl
        refine lv_iload_n hx hb dX5_scan_29 rfl (lv_at hl 3 rfl) ?_
        refine lv_iload_n hx hb dX5_scan_30 rfl (lv_at hl 2 rfl) ?_
        refine zc_ge (i := i) (j := e0) (tgt := 74) hx hb rfl rfl (by omega) (by omega) dX5_scan_31 (by decide) (fun h31 => ?_) (fun h31 => ?_)
        · exact absurd h31 (by omega)
        · refine lv_aload_n hx hb dX5_scan_34 rfl (lv_at hl 0 rfl) ?_
          refine g12 (k := 30) (v := .int (mF Mj 30)) hC hW (by decide) mF_X5_82 rfl dX5_scan_35 ?_
          refine lv_if_ne (tgt := 74) hx hb dX5_scan_38 (by decide) (fun h38 => ?_) (fun h38 => ?_)
          · exact J i Mj hJj (by rw [← hD, mscL, if_pos h38]) _ _ _ hW (lv_sub hl [0, 1, 2] rfl)
          · refine lv_aload_n hx hb dX5_scan_41 rfl (lv_at hl 0 rfl) ?_
            refine lv_iconst (v := 0) hx hb dX5_scan_42 (by decide) ?_
            refine z_callV (As := [.int 0]) (rest := []) (st1 := [.int (nI (100 * t + i))]) hC hW LL_12 rfl rfl rfl (c_take l G C Mj (mm := 0) (by decide) h38 (by omega) hJj) mw_X5_take mv_X5_take mM_X5_157 ⟨Nat.le_of_ble_eq_true rfl, Nat.le_of_ble_eq_true rfl⟩ rfl rfl hl.1 (lv_room (Nat.le_of_ble_eq_true rfl)) dX5_scan_43 rfl (fun H locs hW => ?_) ⟨Nat.zero_le _, Nat.zero_le _⟩
            obtain ⟨M8, eM8⟩ : ∃ z_, z_ = mtak Mj 0 d t i := ⟨_, rfl⟩
            rw [← eM8] at hW
            refine lv_pop hx hb dX5_scan_46 rfl ?_
            refine lv_aload_n hx hb dX5_scan_47 rfl (lv_at hl 0 rfl) ?_
            refine lv_aload_n hx hb dX5_scan_48 rfl (lv_at hl 0 rfl) ?_
            refine g12 (k := 30) (v := .int (mF M8 30)) hC hW (by decide) mF_X5_82 rfl dX5_scan_49 ?_
            refine lv_bipush (v := (-7)) hx hb dX5_scan_52 (by decide) ?_
            refine lv_icmp_ne (tgt := 61) hx hb dX5_scan_54 (by decide) (fun h54 => ?_) (fun h54 => ?_)
            · refine lv_aload_n hx hb dX5_scan_61 rfl (lv_at hl 0 rfl) ?_
              refine g12 (k := 30) (v := .int (mF M8 30)) hC hW (by decide) mF_X5_82 rfl dX5_scan_62 ?_
              refine p12 (k := 30) (v := mF M8 30) hC hW (by decide) mF_X5_82 dX5_scan_65 (fun _ eS H locs hW => ?_)
              subst eS
              refine lv_iinc (k := 3) (v := nI (i + 1)) (lv' := [(3, .int (nI (i + 1))), (0, .ref (zad G 12 0)), (1, .int (nI t)), (2, .int (nI e0))]) hx hb dX5_scan_68 hl rfl (nI_inc _) (by decide) rfl (fun ls hl => ?_)
              refine lv_goto (tgt := 29) hx hb dX5_scan_71 (by decide) ?_
              exact ih (i + 1) (smF M8 30 (mF M8 30)) (by omega) (by have h9 := J_scS h38 (by omega) hJj; unfold mscS at h9; rw [← eM8, if_neg h54] at h9; exact h9) (by rw [← hD, mscL, if_neg (fun z => z h38)]; unfold mscS; rw [← eM8, if_neg h54]) _ _ _ hW (lv_sub hl [1, 2, 3, 0] rfl)
            · refine lv_iconst (v := 0) hx hb dX5_scan_57 (by decide) ?_
              refine lv_goto (tgt := 65) hx hb dX5_scan_58 (by decide) ?_
              refine p12 (k := 30) (v := 0) hC hW (by decide) mF_X5_82 dX5_scan_65 (fun _ eS H locs hW => ?_)
              subst eS
              refine lv_iinc (k := 3) (v := nI (i + 1)) (lv' := [(3, .int (nI (i + 1))), (0, .ref (zad G 12 0)), (1, .int (nI t)), (2, .int (nI e0))]) hx hb dX5_scan_68 hl rfl (nI_inc _) (by decide) rfl (fun ls hl => ?_)
              refine lv_goto (tgt := 29) hx hb dX5_scan_71 (by decide) ?_
              exact ih (i + 1) (smF M8 30 0) (by omega) (by have h9 := J_scS h38 (by omega) hJj; unfold mscS at h9; rw [← eM8, if_pos h54] at h9; exact h9) (by rw [← hD, mscL, if_neg (fun z => z h38)]; unfold mscS; rw [← eM8, if_pos h54]) _ _ _ hW (lv_sub hl [1, 2, 3, 0] rfl)
    exact lp e0 0 M2 (by omega) hJ2 hX2 _ _ _ hW (lv_sub hl [2, 3, 1, 0] rfl)
  · exact absurd (not_bad hle ht) h5

