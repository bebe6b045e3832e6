/-! ===== the reference: its steps ===== -/
theorem bI_c {P Q : Prop} [Decidable P] [Decidable Q] (h : P ↔ Q) : bI P = bI Q := by unfold bI; by_cases p : P; rw [if_pos p, if_pos (h.mp p)]; rw [if_neg p, if_neg (fun q => p (h.mpr q))]
abbrev inP (x lo hi : Int32) : Prop := ¬ x < lo ∧ ¬ hi < x
theorem inP_tape {n : Nat} (hn : n ≤ 12) (x : Int32) : inP x 0 (nI n - 1) ↔ ¬ badT n x := by
  have h1 : (nI n - 1).toInt = (n : Int) - 1 := pk_sub_toInt (a := n) (b := 1) (by omega) (by decide)
  have h2 : (nI n).toInt = (n : Int) := nI_toInt (by omega)
  have h3 : (0 : Int32).toInt = 0 := rfl
  simp only [inP, badT, Int32.lt_iff_toInt_lt, Int32.le_iff_toInt_le, h1, h2, h3]
  omega
theorem inP_name (x : Int32) : inP x 0 999 ↔ nameP x := by
  have h1 : (999 : Int32).toInt = 999 := rfl
  have h2 : (1000 : Int32).toInt = 1000 := rfl
  have h3 : (0 : Int32).toInt = 0 := rfl
  simp only [inP, nameP, Int32.lt_iff_toInt_lt, Int32.le_iff_toInt_le, h1, h2, h3]
  omega
theorem mdist_p : ∀ h, h < 32 → ∀ d, d < 3 → 0 ≤ (nI h - 8) - nI (8 * d) → ((nI h - 8) - nI (8 * d)) + 1 = nI (dist h d) := by decide +kernel
theorem mdist_n : ∀ h, h < 32 → ∀ d, d < 3 → ¬ 0 ≤ (nI h - 8) - nI (8 * d) → (-((nI h - 8) - nI (8 * d))) + 1 = nI (dist h d) := by decide +kernel
/-- a step of work, when things may go on -/
def mwM (M : MS) : MS := if mF M 29 = 0 then smF (smF M 29 (-1)) 30 (-4) else smF (smF M 29 (if mF M 29 ≤ 0 then mF M 29 else mF M 29 - 1)) 25 (mF M 25 + 1)
theorem mwM_A (M : MS) : mA (mwM M) = mA M := by unfold mwM; split <;> rfl
theorem mwM_w {M : MS} (h0 : mF M 30 = 0) (hp : mF M 29 ≠ 0) : mF (mwM M) 30 = 0 := by unfold mwM; rw [if_neg hp]; exact h0
theorem mwM_c {M : MS} (hp : ¬ mF M 29 ≠ 0) : mF (mwM M) 30 = -4 := by unfold mwM; rw [if_pos (Classical.byContradiction hp)]; rfl
def mput (M : MS) (t q : Nat) (k n z : Int32) : MS := smA (smA (smA (smA M 5 (100 * t + q) k) 6 (100 * t + q) n) 7 (100 * t + q) z) 2 t (mA M 2 t + 1)
def mpJ (M : MS) (d : Nat) : MS := smF (smA (smA M 12 d (-1)) 11 d 1) 30 (-5)
def mp2 (M : MS) (m d q : Nat) : MS := smA (smA (smA M 12 d (if mA M 12 d ≤ 0 then mA M 12 d else mA M 12 d - 1)) 14 d (mA M 14 d + 1)) 19 m (nI (q + 1))
def mpas0 (M : MS) (m d q : Nat) : MS := if mA M 12 d = 0 then mpJ M d else if mF M 29 ≠ 0 then mp2 (mwM M) m d q else mwM M
def mpas1 (M : MS) (m d q : Nat) : MS := if q = 100 then smF M 30 (-6) else mpas0 M m d q
def mwri (M : MS) (m d t q : Nat) (k n z : Int32) : MS := if mF (mpas1 M m d q) 30 = 0 then mput (mpas1 M m d q) t q k n z else mpas1 M m d q
def mtak (M : MS) (m d t q : Nat) : MS := if mF (mpas0 M m d q) 30 = 0 then (if mA (mpas0 M m d q) 8 (100 * t + q) = 0 then mpas0 M m d q else smF (mpas0 M m d q) 30 (-7)) else mpas0 M m d q
def mclo1 (M : MS) (t e : Nat) : MS := mput (smF M 26 (mF M 26 + 1)) t e 4 0 0
def mclo (M : MS) (m d t e b : Nat) : MS := if e ≤ b then M else if 100 ≤ e then M else if mA M 11 d = 0 then smA (mclo1 M t e) 19 m (mA (mclo1 M t e) 2 t) else M
def mun1 (M : MS) (d t q : Nat) : MS := smA (smF M 26 (mF M 26 + nI ((if mA M 11 d = 0 then 1 else 3) * q))) 4 t (mA M 4 t + nI q)
def mun2 (M : MS) (m d t q : Nat) : MS := if mA M 18 m = 0 then M else mun1 M d t q
def munm (M : MS) (m d t q : Nat) : MS := smA (smF (mun2 M m d t q) 26 (mF (mun2 M m d t q) 26 + mA M 17 m)) 10 d 0
def mwL (m : Nat) : Nat → Nat → MS → MS
  | 0, _, M => M
  | k + 1, q, M => if mF M 29 ≠ 0 then mwL m k (q + 1) (smA (mwM M) 19 m (nI (q + 1))) else mwM M
def mbeg (M : MS) : MS := smF (smF M 30 0) 27 (mF M 27 + 1)
def menE (M : MS) : MS := smF M 28 (mF M 28 + if mF M 30 = 0 then 0 else 1)
def menR (M : MS) (x : Int32) : Int32 := if mF M 30 = 0 then x else mF M 30
def fgL (t : Nat) : Nat → Nat → Nat → MS → Nat × MS
  | 0, _, n, M => (n, M)
  | k + 1, j, n, M => fgL t k (j + 1) (if mA M 9 (1000 * t + j) ≤ 0 then n else n + 1) (smA M 9 (1000 * t + j) 0)
def ifL (M : MS) (a z : Nat) : Nat → Nat → Bool
  | 0, _ => true
  | k + 1, i => if mA M 5 (a + i) = (if z < i then 3 else 2) ∧ mA M 8 (a + i) = 0 then ifL M a z k (i + 1) else false
abbrev if0 (M : MS) (a e p z : Nat) : Prop := mA M 5 a = 1 ∧ p + z + 1 < e ∧ mA M 8 a = 0

set_option maxHeartbeats 4000000 in
set_option maxRecDepth 100000 in
theorem c_X5_in (l : Launch) (G : GG) (C : CS) (M : MS) (x lo hi : Int32) : Ct l G yX5_in cX5_in 3 (some .boolean) 0 0 [.int x, .int lo, .int hi] C M (some (.int (bI (inP x lo hi)))) C M := by
  refine Ct_z (by decide) (Nat.le_of_ble_eq_true rfl) (bI_01 _) (fun {p e s m args below meth c A Q ls} hC hW hl hE => ?_)
  have hx := hC.1
  have hb := hC.2.1
  have hl : lv_has ls 3 [(0, .int x), (1, .int lo), (2, .int hi)] := hl
  refine lv_iload_n hx hb dX5_in_0 rfl (lv_at hl 0 rfl) ?_
  refine lv_iload_n hx hb dX5_in_1 rfl (lv_at hl 1 rfl) ?_
  refine lv_icmp_lt (tgt := 14) hx hb dX5_in_2 (by decide) (fun h2 => ?_) (fun h2 => ?_)
  · refine lv_iconst (v := 0) hx hb dX5_in_14 (by decide) ?_
    have qr : (0 : Int32) = bI (inP x lo hi) := by simp [bI, h2, cF_sF, cN_sN, cB_sB, cM_sM, cN_sF, cB_sF, cM_sF, cF_sN, cB_sN, cM_sN, cF_sB, cN_sB, cM_sB, cF_sM, cN_sM, cB_sM, mF_smF, mA_smF, mF_smA, mA_smA]
    exact hE hW qr dX5_in_15
  · refine lv_iload_n hx hb dX5_in_5 rfl (lv_at hl 0 rfl) ?_
    refine lv_iload_n hx hb dX5_in_6 rfl (lv_at hl 2 rfl) ?_
    refine lv_icmp_gt (tgt := 14) hx hb dX5_in_7 (by decide) (fun h7 => ?_) (fun h7 => ?_)
    · refine lv_iconst (v := 0) hx hb dX5_in_14 (by decide) ?_
      have qr : (0 : Int32) = bI (inP x lo hi) := by simp [bI, h2, h7, cF_sF, cN_sN, cB_sB, cM_sM, cN_sF, cB_sF, cM_sF, cF_sN, cB_sN, cM_sN, cF_sB, cN_sB, cM_sB, cF_sM, cN_sM, cB_sM, mF_smF, mA_smF, mF_smA, mA_smA]
      exact hE hW qr dX5_in_15
    · refine lv_iconst (v := 1) hx hb dX5_in_10 (by decide) ?_
      refine lv_goto (tgt := 15) hx hb dX5_in_11 (by decide) ?_
      have qr : (1 : Int32) = bI (inP x lo hi) := by simp [bI, h2, h7, cF_sF, cN_sN, cB_sB, cM_sM, cN_sF, cB_sF, cM_sF, cF_sN, cB_sN, cM_sN, cF_sB, cN_sB, cM_sB, cF_sM, cN_sM, cB_sM, mF_smF, mA_smF, mF_smA, mA_smA]
      exact hE hW qr dX5_in_15

set_option maxHeartbeats 4000000 in
set_option maxRecDepth 100000 in
theorem c_X5_isTape (l : Launch) (G : GG) (C : CS) (M : MS) {n : Nat} (h12 : n ≤ 12) (hn : mF M 0 = nI n) (x : Int32) : Ct l G yX5_isTape cX5_isTape 2 (some .boolean) 1 22 [.ref (zad G 12 0), .int x] C M (some (.int (bI (¬ badT n x)))) C M := by
  refine Ct_z (by decide) (Nat.le_of_ble_eq_true rfl) (bI_01 _) (fun {p e s m args below meth c A Q ls} hC hW hl hE => ?_)
  have hx := hC.1
  have hb := hC.2.1
  have hl : lv_has ls 2 [(0, .ref (zad G 12 0)), (1, .int x)] := hl
  refine lv_iload_n hx hb dX5_isTape_0 rfl (lv_at hl 1 rfl) ?_
  refine lv_iconst (v := 0) hx hb dX5_isTape_1 (by decide) ?_
  refine lv_aload_n hx hb dX5_isTape_2 rfl (lv_at hl 0 rfl) ?_
  refine g12 (k := 0) (v := .int (mF M 0)) hC hW (by decide) mF_X5_75 rfl dX5_isTape_3 ?_
  refine z_top (y := nI n) (hn) ?_
  refine lv_iconst (v := 1) hx hb dX5_isTape_6 (by decide) ?_
  refine lv_isub hx hb dX5_isTape_7 ?_
  refine z_callS (rest := []) (st1 := [.int (bI (inP x 0 ((nI n) - 1)))]) hC hW (c_X5_in l G C M x 0 ((nI n) - 1)) mw_X5_in mT_X5_in mM_X5_78 ⟨Nat.le_of_ble_eq_true rfl, Nat.le_of_ble_eq_true rfl⟩ rfl rfl hl.1 (lv_room (Nat.le_of_ble_eq_true rfl)) dX5_isTape_8 rfl (fun H locs hW => ?_) ⟨Nat.zero_le _, Nat.zero_le _⟩
  have qr : (bI (inP x 0 ((nI n) - 1)) : Int32) = bI (¬ badT n x) := by exact bI_c (inP_tape h12 x)
  exact hE hW qr dX5_isTape_11

set_option maxHeartbeats 4000000 in
set_option maxRecDepth 100000 in
theorem c_X5_isName (l : Launch) (G : GG) (C : CS) (M : MS) (x : Int32) : Ct l G yX5_isName cX5_isName 1 (some .boolean) 1 22 [.int x] C M (some (.int (bI (nameP x)))) C M := by
  refine Ct_z (by decide) (Nat.le_of_ble_eq_true rfl) (bI_01 _) (fun {p e s m args below meth c A Q ls} hC hW hl hE => ?_)
  have hx := hC.1
  have hb := hC.2.1
  have hl : lv_has ls 1 [(0, .int x)] := hl
  refine lv_iload_n hx hb dX5_isName_0 rfl (lv_at hl 0 rfl) ?_
  refine lv_iconst (v := 0) hx hb dX5_isName_1 (by decide) ?_
  refine lv_sipush (v := 999) hx hb dX5_isName_2 (by decide) ?_
  refine z_callS (rest := []) (st1 := [.int (bI (inP x 0 999))]) hC hW (c_X5_in l G C M x 0 999) mw_X5_in mT_X5_in mM_X5_78 ⟨Nat.le_of_ble_eq_true rfl, Nat.le_of_ble_eq_true rfl⟩ rfl rfl hl.1 (lv_room (Nat.le_of_ble_eq_true rfl)) dX5_isName_5 rfl (fun H locs hW => ?_) ⟨Nat.zero_le _, Nat.zero_le _⟩
  have qr : (bI (inP x 0 999) : Int32) = bI (nameP x) := by exact bI_c (inP_name x)
  exact hE hW qr dX5_isName_8

set_option maxHeartbeats 4000000 in
set_option maxRecDepth 100000 in
theorem c_X5_work_f (l : Launch) (G : GG) (C : CS) (M : MS) (h0 : mF M 30 ≠ 0) : Ct l G yX5_work cX5_work 1 (some .boolean) 0 0 [.ref (zad G 12 0)] C M (some (.int 0)) C M := by
  refine Ct_z (by decide) (Nat.le_of_ble_eq_true rfl) (Or.inl rfl) (fun {p e s m args below meth c A Q ls} hC hW hl hE => ?_)
  have hx := hC.1
  have hb := hC.2.1
  have hl : lv_has ls 1 [(0, .ref (zad G 12 0))] := hl
  refine lv_aload_n hx hb dX5_work_0 rfl (lv_at hl 0 rfl) ?_
  refine g12 (k := 30) (v := .int (mF M 30)) hC hW (by decide) mF_X5_82 rfl dX5_work_1 ?_
  refine lv_if_eq (tgt := 9) hx hb dX5_work_4 (by decide) (fun h4 => ?_) (fun h4 => ?_)
  · exact absurd h4 h0
  · refine lv_iconst (v := 0) hx hb dX5_work_7 (by decide) ?_
    exact hE hW rfl dX5_work_8

set_option maxHeartbeats 4000000 in
set_option maxRecDepth 100000 in
theorem c_X5_work_0 (l : Launch) (G : GG) (C : CS) (M : MS) (h0 : mF M 30 = 0) : Ct l G yX5_work cX5_work 1 (some .boolean) 0 0 [.ref (zad G 12 0)] C M (some (.int (bI (mF M 29 ≠ 0)))) C (mwM M) := by
  refine Ct_z (by decide) (Nat.le_of_ble_eq_true rfl) (bI_01 _) (fun {p e s m args below meth c A Q ls} hC hW hl hE => ?_)
  have hx := hC.1
  have hb := hC.2.1
  have hl : lv_has ls 1 [(0, .ref (zad G 12 0))] := hl
  refine lv_aload_n hx hb dX5_work_0 rfl (lv_at hl 0 rfl) ?_
  refine g12 (k := 30) (v := .int (mF M 30)) hC hW (by decide) mF_X5_82 rfl dX5_work_1 ?_
  refine lv_if_eq (tgt := 9) hx hb dX5_work_4 (by decide) (fun h4 => ?_) (fun h4 => ?_)
  · refine lv_aload_n hx hb dX5_work_9 rfl (lv_at hl 0 rfl) ?_
    refine g12 (k := 29) (v := .int (mF M 29)) hC hW (by decide) mF_X5_72 rfl dX5_work_10 ?_
    refine lv_if_ne (tgt := 29) hx hb dX5_work_13 (by decide) (fun h13 => ?_) (fun h13 => ?_)
    · refine lv_aload_n hx hb dX5_work_29 rfl (lv_at hl 0 rfl) ?_
      refine lv_aload_n hx hb dX5_work_30 rfl (lv_at hl 0 rfl) ?_
      refine g12 (k := 29) (v := .int (mF M 29)) hC hW (by decide) mF_X5_72 rfl dX5_work_31 ?_
      refine lv_if_le (tgt := 46) hx hb dX5_work_34 (by decide) (fun h34 => ?_) (fun h34 => ?_)
      · refine lv_aload_n hx hb dX5_work_46 rfl (lv_at hl 0 rfl) ?_
        refine g12 (k := 29) (v := .int (mF M 29)) hC hW (by decide) mF_X5_72 rfl dX5_work_47 ?_
        refine p12 (k := 29) (v := mF M 29) hC hW (by decide) mF_X5_72 dX5_work_50 (fun _ eS H locs hW => ?_)
        subst eS
        refine lv_aload_n hx hb dX5_work_53 rfl (lv_at hl 0 rfl) ?_
        refine lv_dup hx hb dX5_work_54 rfl ?_
        refine g12 (k := 25) (v := .int (mF M 25)) hC hW (by decide) mF_X5_85 rfl dX5_work_55 ?_
        refine lv_iconst (v := 1) hx hb dX5_work_58 (by decide) ?_
        refine lv_iadd hx hb dX5_work_59 ?_
        refine p12 (k := 25) (v := (mF M 25) + 1) hC hW (by decide) mF_X5_85 dX5_work_60 (fun _ eS H locs hW => ?_)
        subst eS
        refine lv_iconst (v := 1) hx hb dX5_work_63 (by decide) ?_
        have hD2 : mwM M = smF (smF M 29 (mF M 29)) 25 ((mF M 25) + 1) := by unfold mwM; rw [if_neg h13, if_pos h34]
        rw [hD2] at hE
        exact hE hW (bI_t h13) dX5_work_64
      · refine lv_aload_n hx hb dX5_work_37 rfl (lv_at hl 0 rfl) ?_
        refine g12 (k := 29) (v := .int (mF M 29)) hC hW (by decide) mF_X5_72 rfl dX5_work_38 ?_
        refine lv_iconst (v := 1) hx hb dX5_work_41 (by decide) ?_
        refine lv_isub hx hb dX5_work_42 ?_
        refine lv_goto (tgt := 50) hx hb dX5_work_43 (by decide) ?_
        refine p12 (k := 29) (v := (mF M 29) - 1) hC hW (by decide) mF_X5_72 dX5_work_50 (fun _ eS H locs hW => ?_)
        subst eS
        refine lv_aload_n hx hb dX5_work_53 rfl (lv_at hl 0 rfl) ?_
        refine lv_dup hx hb dX5_work_54 rfl ?_
        refine g12 (k := 25) (v := .int (mF M 25)) hC hW (by decide) mF_X5_85 rfl dX5_work_55 ?_
        refine lv_iconst (v := 1) hx hb dX5_work_58 (by decide) ?_
        refine lv_iadd hx hb dX5_work_59 ?_
        refine p12 (k := 25) (v := (mF M 25) + 1) hC hW (by decide) mF_X5_85 dX5_work_60 (fun _ eS H locs hW => ?_)
        subst eS
        refine lv_iconst (v := 1) hx hb dX5_work_63 (by decide) ?_
        have hD2 : mwM M = smF (smF M 29 ((mF M 29) - 1)) 25 ((mF M 25) + 1) := by unfold mwM; rw [if_neg h13, if_neg h34]
        rw [hD2] at hE
        exact hE hW (bI_t h13) dX5_work_64
    · refine lv_aload_n hx hb dX5_work_16 rfl (lv_at hl 0 rfl) ?_
      refine lv_iconst (v := (-1)) hx hb dX5_work_17 (by decide) ?_
      refine p12 (k := 29) (v := (-1)) hC hW (by decide) mF_X5_72 dX5_work_18 (fun _ eS H locs hW => ?_)
      subst eS
      refine lv_aload_n hx hb dX5_work_21 rfl (lv_at hl 0 rfl) ?_
      refine lv_bipush (v := (-4)) hx hb dX5_work_22 (by decide) ?_
      refine p12 (k := 30) (v := (-4)) hC hW (by decide) mF_X5_82 dX5_work_24 (fun _ eS H locs hW => ?_)
      subst eS
      refine lv_iconst (v := 0) hx hb dX5_work_27 (by decide) ?_
      have hD2 : mwM M = smF (smF M 29 (-1)) 30 (-4) := by unfold mwM; rw [if_pos h13]
      rw [hD2] at hE
      exact hE hW (bI_f (fun q => q h13)) dX5_work_28
  · exact absurd h0 h4

set_option maxHeartbeats 4000000 in
set_option maxRecDepth 100000 in
theorem c_X5_distance (l : Launch) (G : GG) (C : CS) (M : MS) {h d : Nat} (hh : h < 32) (hd : d < 3) : Ct l G yX5_distance cX5_distance 3 (some .int) 0 0 [.int (nI h), .int (nI d)] C M (some (.int (nI (dist h d)))) C M := by
  refine Ct_i (by decide) (Nat.le_of_ble_eq_true rfl) (fun {p e s m args below meth c A Q ls} hC hW hl hE => ?_)
  have hx := hC.1
  have hb := hC.2.1
  have hl : lv_has ls 3 [(0, .int (nI h)), (1, .int (nI d))] := hl
  refine lv_iload_n hx hb dX5_distance_0 rfl (lv_at hl 0 rfl) ?_
  refine lv_bipush (v := 8) hx hb dX5_distance_1 (by decide) ?_
  refine lv_isub hx hb dX5_distance_3 ?_
  refine lv_bipush (v := 8) hx hb dX5_distance_4 (by decide) ?_
  refine lv_iload_n hx hb dX5_distance_6 rfl (lv_at hl 1 rfl) ?_
  refine zi_mul (i := 8) (j := d) hx hb rfl rfl dX5_distance_7 ?_
  refine lv_isub hx hb dX5_distance_8 ?_
  refine lv_istore_n (lv' := [(2, .int (((nI h) - 8) - (nI (8 * d)))), (0, .int (nI h)), (1, .int (nI d))]) hx hb dX5_distance_9 rfl hl (by decide) rfl (fun ls hl => ?_)
  refine lv_iload_n hx hb dX5_distance_10 rfl (lv_at hl 0 rfl) ?_
  refine lv_if_ge (tgt := 19) hx hb dX5_distance_11 (by decide) (fun h11 => ?_) (fun h11 => ?_)
  · refine lv_iload_n hx hb dX5_distance_19 rfl (lv_at hl 0 rfl) ?_
    refine lv_iconst (v := 1) hx hb dX5_distance_20 (by decide) ?_
    refine lv_iadd hx hb dX5_distance_21 ?_
    have qr : ((((nI h) - 8) - (nI (8 * d))) + 1 : Int32) = nI (dist h d) := by exact mdist_p h hh d hd h11
    exact hE hW qr dX5_distance_22
  · refine lv_iload_n hx hb dX5_distance_14 rfl (lv_at hl 0 rfl) ?_
    refine lv_ineg hx hb dX5_distance_15 ?_
    refine lv_goto (tgt := 20) hx hb dX5_distance_16 (by decide) ?_
    refine lv_iconst (v := 1) hx hb dX5_distance_20 (by decide) ?_
    refine lv_iadd hx hb dX5_distance_21 ?_
    have qr : ((-(((nI h) - 8) - (nI (8 * d)))) + 1 : Int32) = nI (dist h d) := by exact mdist_n h hh d hd h11
    exact hE hW qr dX5_distance_22

set_option maxHeartbeats 4000000 in
set_option maxRecDepth 100000 in
theorem c_X5_put (l : Launch) (G : GG) (C : CS) (M : MS) {t q : Nat} (ht : t < 12) (hq : q < 100) (k v z : Int32) : Ct l G yX5_put cX5_put 6 none 0 0 [.ref (zad G 12 0), .int (nI t), .int (nI q), .int k, .int v, .int z] C M none C (mput M t q k v z) := by
  refine Ct_v (by decide) (Nat.le_of_ble_eq_true rfl) (fun {p e s m args below meth c A Q ls} hC hW hl hE => ?_)
  have hx := hC.1
  have hb := hC.2.1
  have hl : lv_has ls 6 [(0, .ref (zad G 12 0)), (1, .int (nI t)), (2, .int (nI q)), (3, .int k), (4, .int v), (5, .int z)] := hl
  refine lv_aload_n hx hb dX5_put_0 rfl (lv_at hl 0 rfl) ?_
  refine g12 (k := 5) (v := .ref (zad G 13 5)) hC hW (by decide) mF_X5_22 rfl dX5_put_1 ?_
  refine lv_bipush (v := 100) hx hb dX5_put_4 (by decide) ?_
  refine lv_iload_n hx hb dX5_put_6 rfl (lv_at hl 1 rfl) ?_
  refine zi_mul (i := 100) (j := t) hx hb rfl rfl dX5_put_7 ?_
  refine lv_iload_n hx hb dX5_put_8 rfl (lv_at hl 2 rfl) ?_
  refine zi_add (i := 100 * t) (j := q) hx hb rfl rfl dX5_put_9 ?_
  refine lv_iload_n hx hb dX5_put_10 rfl (lv_at hl 3 rfl) ?_
  refine sm (i := 100 * t + q) (n := 1200) (v := k) hC hW (by decide) rfl rfl (rfl) (by omega) dX5_put_11 (fun _ eS H locs hW => ?_)
  subst eS
  refine lv_aload_n hx hb dX5_put_12 rfl (lv_at hl 0 rfl) ?_
  refine g12 (k := 6) (v := .ref (zad G 13 6)) hC hW (by decide) mF_X5_25 rfl dX5_put_13 ?_
  refine lv_bipush (v := 100) hx hb dX5_put_16 (by decide) ?_
  refine lv_iload_n hx hb dX5_put_18 rfl (lv_at hl 1 rfl) ?_
  refine zi_mul (i := 100) (j := t) hx hb rfl rfl dX5_put_19 ?_
  refine lv_iload_n hx hb dX5_put_20 rfl (lv_at hl 2 rfl) ?_
  refine zi_add (i := 100 * t) (j := q) hx hb rfl rfl dX5_put_21 ?_
  refine lv_iload hx hb dX5_put_22 (lv_at hl 4 rfl) ?_
  refine sm (i := 100 * t + q) (n := 1200) (v := v) hC hW (by decide) rfl rfl (rfl) (by omega) dX5_put_24 (fun _ eS H locs hW => ?_)
  subst eS
  refine lv_aload_n hx hb dX5_put_25 rfl (lv_at hl 0 rfl) ?_
  refine g12 (k := 7) (v := .ref (zad G 13 7)) hC hW (by decide) mF_X5_28 rfl dX5_put_26 ?_
  refine lv_bipush (v := 100) hx hb dX5_put_29 (by decide) ?_
  refine lv_iload_n hx hb dX5_put_31 rfl (lv_at hl 1 rfl) ?_
  refine zi_mul (i := 100) (j := t) hx hb rfl rfl dX5_put_32 ?_
  refine lv_iload_n hx hb dX5_put_33 rfl (lv_at hl 2 rfl) ?_
  refine zi_add (i := 100 * t) (j := q) hx hb rfl rfl dX5_put_34 ?_
  refine lv_iload hx hb dX5_put_35 (lv_at hl 5 rfl) ?_
  refine sm (i := 100 * t + q) (n := 1200) (v := z) hC hW (by decide) rfl rfl (rfl) (by omega) dX5_put_37 (fun _ eS H locs hW => ?_)
  subst eS
  refine lv_aload_n hx hb dX5_put_38 rfl (lv_at hl 0 rfl) ?_
  refine g12 (k := 2) (v := .ref (zad G 13 2)) hC hW (by decide) mF_X5_13 rfl dX5_put_39 ?_
  refine lv_iload_n hx hb dX5_put_42 rfl (lv_at hl 1 rfl) ?_
  refine lv_dup2_11 hx hb dX5_put_43 rfl rfl ?_
  refine am (i := t) (n := 12) hC hW (by decide) rfl rfl (rfl) (by omega) dX5_put_44 ?_
  refine lv_iconst (v := 1) hx hb dX5_put_45 (by decide) ?_
  refine lv_iadd hx hb dX5_put_46 ?_
  refine sm (i := t) (n := 12) (v := (mA M 2 t) + 1) hC hW (by decide) rfl rfl (rfl) (by omega) dX5_put_47 (fun _ eS H locs hW => ?_)
  subst eS
  have qM : smA (smA (smA (smA M 5 (100 * t + q) k) 6 (100 * t + q) v) 7 (100 * t + q) z) 2 t ((mA M 2 t) + 1) = mput M t q k v z := by rfl
  rw [qM] at hW
  exact hE hW dX5_put_48

set_option maxHeartbeats 4000000 in
set_option maxRecDepth 100000 in
theorem c_X5_pass_f (l : Launch) (G : GG) (C : CS) (M : MS) {mm : Nat} (hm : mm < 2) (h0 : mF M 30 ≠ 0) (wr : Int32) : Ct l G yX5_pass cX5_pass 4 none 1 20 [.ref (zad G 12 0), .int (nI mm), .int wr] C M none C M := by
  refine Ct_v (by decide) (Nat.le_of_ble_eq_true rfl) (fun {p e s m args below meth c A Q ls} hC hW hl hE => ?_)
  have hx := hC.1
  have hb := hC.2.1
  have hl : lv_has ls 4 [(0, .ref (zad G 12 0)), (1, .int (nI mm)), (2, .int wr)] := hl
  refine lv_aload_n hx hb dX5_pass_0 rfl (lv_at hl 0 rfl) ?_
  refine g12 (k := 15) (v := .ref (zad G 13 15)) hC hW (by decide) mF_X5_53 rfl dX5_pass_1 ?_
  refine lv_iload_n hx hb dX5_pass_4 rfl (lv_at hl 1 rfl) ?_
  refine am (i := mm) (n := 2) hC hW (by decide) rfl rfl (rfl) (by omega) dX5_pass_5 ?_
  refine lv_istore_n (lv' := [(3, .int (mA M 15 mm)), (0, .ref (zad G 12 0)), (1, .int (nI mm)), (2, .int wr)]) hx hb dX5_pass_6 rfl hl (by decide) rfl (fun ls hl => ?_)
  refine lv_aload_n hx hb dX5_pass_7 rfl (lv_at hl 1 rfl) ?_
  refine g12 (k := 30) (v := .int (mF M 30)) hC hW (by decide) mF_X5_82 rfl dX5_pass_8 ?_
  refine lv_if_ne (tgt := 35) hx hb dX5_pass_11 (by decide) (fun h11 => ?_) (fun h11 => ?_)
  · refine lv_aload_n hx hb dX5_pass_35 rfl (lv_at hl 1 rfl) ?_
    refine g12 (k := 30) (v := .int (mF M 30)) hC hW (by decide) mF_X5_82 rfl dX5_pass_36 ?_
    refine lv_if_ne (tgt := 71) hx hb dX5_pass_39 (by decide) (fun h39 => ?_) (fun h39 => ?_)
    · refine lv_aload_n hx hb dX5_pass_71 rfl (lv_at hl 1 rfl) ?_
      refine z_callV (As := []) (rest := []) (st1 := [.int 0]) hC hW LL_12 rfl rfl rfl (c_X5_work_f l G C M h0) mw_X5_work mv_X5_work mM_X5_92 ⟨Nat.le_of_ble_eq_true rfl, Nat.le_of_ble_eq_true rfl⟩ rfl rfl hl.1 (lv_room (Nat.le_of_ble_eq_true rfl)) dX5_pass_72 rfl (fun H locs hW => ?_) ⟨Nat.zero_le _, Nat.zero_le _⟩
      refine lv_if_eq (tgt := 130) hx hb dX5_pass_75 (by decide) (fun _ => ?_) (fun q => absurd (by decide) q)
      exact hE hW dX5_pass_130
    · exact absurd h39 h0
  · exact absurd h11 h0

set_option maxHeartbeats 4000000 in
set_option maxRecDepth 100000 in
theorem c_X5_pass_0 (l : Launch) (G : GG) (C : CS) (M : MS) {mm : Nat} (hm : mm < 2) (h0 : mF M 30 = 0) {d q : Nat} (hd : d < 3) (hdr : mA M 15 mm = nI d) (hq : mA M 19 mm = nI q) (hqb : q < 2 ^ 30)  : Ct l G yX5_pass cX5_pass 4 none 1 20 [.ref (zad G 12 0), .int (nI mm), .int 0] C M none C (mpas0 M mm d q) := by
  refine Ct_v (by decide) (Nat.le_of_ble_eq_true rfl) (fun {p e s m args below meth c A Q ls} hC hW hl hE => ?_)
  have hx := hC.1
  have hb := hC.2.1
  have hl : lv_has ls 4 [(0, .ref (zad G 12 0)), (1, .int (nI mm)), (2, .int 0)] := hl
  refine lv_aload_n hx hb dX5_pass_0 rfl (lv_at hl 0 rfl) ?_
  refine g12 (k := 15) (v := .ref (zad G 13 15)) hC hW (by decide) mF_X5_53 rfl dX5_pass_1 ?_
  refine lv_iload_n hx hb dX5_pass_4 rfl (lv_at hl 1 rfl) ?_
  refine am (i := mm) (n := 2) hC hW (by decide) rfl rfl (rfl) (by omega) dX5_pass_5 ?_
  refine z_top (y := nI d) (hdr) ?_
  refine lv_istore_n (lv' := [(3, .int (nI d)), (0, .ref (zad G 12 0)), (1, .int (nI mm)), (2, .int 0)]) hx hb dX5_pass_6 rfl hl (by decide) rfl (fun ls hl => ?_)
  refine lv_aload_n hx hb dX5_pass_7 rfl (lv_at hl 1 rfl) ?_
  refine g12 (k := 30) (v := .int (mF M 30)) hC hW (by decide) mF_X5_82 rfl dX5_pass_8 ?_
  refine lv_if_ne (tgt := 35) hx hb dX5_pass_11 (by decide) (fun h11 => ?_) (fun h11 => ?_)
  · exact absurd h0 h11
  · refine lv_iload_n hx hb dX5_pass_14 rfl (lv_at hl 3 rfl) ?_
    refine lv_if_eq (tgt := 35) hx hb dX5_pass_15 (by decide) (fun _ => ?_) (fun q => absurd (by decide) q)
    refine lv_aload_n hx hb dX5_pass_35 rfl (lv_at hl 1 rfl) ?_
    refine g12 (k := 30) (v := .int (mF M 30)) hC hW (by decide) mF_X5_82 rfl dX5_pass_36 ?_
    refine lv_if_ne (tgt := 71) hx hb dX5_pass_39 (by decide) (fun h39 => ?_) (fun h39 => ?_)
    · exact absurd h0 h39
    · refine lv_aload_n hx hb dX5_pass_42 rfl (lv_at hl 1 rfl) ?_
      refine g12 (k := 12) (v := .ref (zad G 13 12)) hC hW (by decide) mF_X5_44 rfl dX5_pass_43 ?_
      refine lv_iload_n hx hb dX5_pass_46 rfl (lv_at hl 0 rfl) ?_
      refine am (i := d) (n := 3) hC hW (by decide) rfl rfl (rfl) (by omega) dX5_pass_47 ?_
      refine lv_if_ne (tgt := 71) hx hb dX5_pass_48 (by decide) (fun h48 => ?_) (fun h48 => ?_)
      · refine lv_aload_n hx hb dX5_pass_71 rfl (lv_at hl 1 rfl) ?_
        refine z_callV (As := []) (rest := []) (st1 := [.int (bI (mF M 29 ≠ 0))]) hC hW LL_12 rfl rfl rfl (c_X5_work_0 l G C M h0) mw_X5_work mv_X5_work mM_X5_92 ⟨Nat.le_of_ble_eq_true rfl, Nat.le_of_ble_eq_true rfl⟩ rfl rfl hl.1 (lv_room (Nat.le_of_ble_eq_true rfl)) dX5_pass_72 rfl (fun H locs hW => ?_) ⟨Nat.zero_le _, Nat.zero_le _⟩
        obtain ⟨M1, eM1⟩ : ∃ z_, z_ = mwM M := ⟨_, rfl⟩
        rw [← eM1] at hW
        have hA1 : mA M1 = mA M := by rw [eM1]; exact mwM_A M
        refine zb_eq (tgt := 130) hx hb (mF M 29 ≠ 0) rfl dX5_pass_75 (by decide) (fun h75 => ?_) (fun h75 => ?_)
        · have hD2 : mpas0 M mm d q = M1 := by unfold mpas0; rw [if_neg h48, if_neg h75, eM1]
          rw [hD2] at hE
          exact hE hW dX5_pass_130
        · refine lv_aload_n hx hb dX5_pass_78 rfl (lv_at hl 1 rfl) ?_
          refine g12 (k := 12) (v := .ref (zad G 13 12)) hC hW (by decide) mF_X5_44 rfl dX5_pass_79 ?_
          refine lv_iload_n hx hb dX5_pass_82 rfl (lv_at hl 0 rfl) ?_
          refine lv_aload_n hx hb dX5_pass_83 rfl (lv_at hl 1 rfl) ?_
          refine g12 (k := 12) (v := .ref (zad G 13 12)) hC hW (by decide) mF_X5_44 rfl dX5_pass_84 ?_
          refine lv_iload_n hx hb dX5_pass_87 rfl (lv_at hl 0 rfl) ?_
          refine am (i := d) (n := 3) hC hW (by decide) rfl rfl (rfl) (by omega) dX5_pass_88 ?_
          refine lv_if_le (tgt := 103) hx hb dX5_pass_89 (by decide) (fun h89 => ?_) (fun h89 => ?_)
          · refine lv_aload_n hx hb dX5_pass_103 rfl (lv_at hl 1 rfl) ?_
            refine g12 (k := 12) (v := .ref (zad G 13 12)) hC hW (by decide) mF_X5_44 rfl dX5_pass_104 ?_
            refine lv_iload_n hx hb dX5_pass_107 rfl (lv_at hl 0 rfl) ?_
            refine am (i := d) (n := 3) hC hW (by decide) rfl rfl (rfl) (by omega) dX5_pass_108 ?_
            refine sm (i := d) (n := 3) (v := mA M1 12 d) hC hW (by decide) rfl rfl (rfl) (by omega) dX5_pass_109 (fun _ eS H locs hW => ?_)
            subst eS
            refine lv_aload_n hx hb dX5_pass_110 rfl (lv_at hl 1 rfl) ?_
            refine g12 (k := 14) (v := .ref (zad G 13 14)) hC hW (by decide) mF_X5_50 rfl dX5_pass_111 ?_
            refine lv_iload_n hx hb dX5_pass_114 rfl (lv_at hl 0 rfl) ?_
            refine lv_dup2_11 hx hb dX5_pass_115 rfl rfl ?_
            refine am (i := d) (n := 3) hC hW (by decide) rfl rfl (rfl) (by omega) dX5_pass_116 ?_
            refine lv_iconst (v := 1) hx hb dX5_pass_117 (by decide) ?_
            refine lv_iadd hx hb dX5_pass_118 ?_
            refine sm (i := d) (n := 3) (v := (mA M1 14 d) + 1) hC hW (by decide) rfl rfl (rfl) (by omega) dX5_pass_119 (fun _ eS H locs hW => ?_)
            subst eS
            refine lv_aload_n hx hb dX5_pass_120 rfl (lv_at hl 1 rfl) ?_
            refine g12 (k := 19) (v := .ref (zad G 13 19)) hC hW (by decide) mF_X5_65 rfl dX5_pass_121 ?_
            refine lv_iload_n hx hb dX5_pass_124 rfl (lv_at hl 2 rfl) ?_
            refine lv_dup2_11 hx hb dX5_pass_125 rfl rfl ?_
            refine am (i := mm) (n := 2) hC hW (by decide) rfl rfl (rfl) (by omega) dX5_pass_126 ?_
            refine z_top (y := nI q) (by show mA M1 19 mm = nI q; rw [hA1]; exact hq) ?_
            refine lv_iconst (v := 1) hx hb dX5_pass_127 (by decide) ?_
            refine zi_add (i := q) (j := 1) hx hb rfl rfl dX5_pass_128 ?_
            refine sm (i := mm) (n := 2) (v := nI (q + 1)) hC hW (by decide) rfl rfl (rfl) (by omega) dX5_pass_129 (fun _ eS H locs hW => ?_)
            subst eS
            have hD2 : mpas0 M mm d q = smA (smA (smA M1 12 d (mA M1 12 d)) 14 d ((mA M1 14 d) + 1)) 19 mm (nI (q + 1)) := by unfold mpas0; rw [if_neg h48, if_pos h75, ← eM1]; unfold mp2; rw [if_pos h89]
            rw [hD2] at hE
            exact hE hW dX5_pass_130
          · refine lv_aload_n hx hb dX5_pass_92 rfl (lv_at hl 1 rfl) ?_
            refine g12 (k := 12) (v := .ref (zad G 13 12)) hC hW (by decide) mF_X5_44 rfl dX5_pass_93 ?_
            refine lv_iload_n hx hb dX5_pass_96 rfl (lv_at hl 0 rfl) ?_
            refine am (i := d) (n := 3) hC hW (by decide) rfl rfl (rfl) (by omega) dX5_pass_97 ?_
            refine lv_iconst (v := 1) hx hb dX5_pass_98 (by decide) ?_
            refine lv_isub hx hb dX5_pass_99 ?_
            refine lv_goto (tgt := 109) hx hb dX5_pass_100 (by decide) ?_
            refine sm (i := d) (n := 3) (v := (mA M1 12 d) - 1) hC hW (by decide) rfl rfl (rfl) (by omega) dX5_pass_109 (fun _ eS H locs hW => ?_)
            subst eS
            refine lv_aload_n hx hb dX5_pass_110 rfl (lv_at hl 1 rfl) ?_
            refine g12 (k := 14) (v := .ref (zad G 13 14)) hC hW (by decide) mF_X5_50 rfl dX5_pass_111 ?_
            refine lv_iload_n hx hb dX5_pass_114 rfl (lv_at hl 0 rfl) ?_
            refine lv_dup2_11 hx hb dX5_pass_115 rfl rfl ?_
            refine am (i := d) (n := 3) hC hW (by decide) rfl rfl (rfl) (by omega) dX5_pass_116 ?_
            refine lv_iconst (v := 1) hx hb dX5_pass_117 (by decide) ?_
            refine lv_iadd hx hb dX5_pass_118 ?_
            refine sm (i := d) (n := 3) (v := (mA M1 14 d) + 1) hC hW (by decide) rfl rfl (rfl) (by omega) dX5_pass_119 (fun _ eS H locs hW => ?_)
            subst eS
            refine lv_aload_n hx hb dX5_pass_120 rfl (lv_at hl 1 rfl) ?_
            refine g12 (k := 19) (v := .ref (zad G 13 19)) hC hW (by decide) mF_X5_65 rfl dX5_pass_121 ?_
            refine lv_iload_n hx hb dX5_pass_124 rfl (lv_at hl 2 rfl) ?_
            refine lv_dup2_11 hx hb dX5_pass_125 rfl rfl ?_
            refine am (i := mm) (n := 2) hC hW (by decide) rfl rfl (rfl) (by omega) dX5_pass_126 ?_
            refine z_top (y := nI q) (by show mA M1 19 mm = nI q; rw [hA1]; exact hq) ?_
            refine lv_iconst (v := 1) hx hb dX5_pass_127 (by decide) ?_
            refine zi_add (i := q) (j := 1) hx hb rfl rfl dX5_pass_128 ?_
            refine sm (i := mm) (n := 2) (v := nI (q + 1)) hC hW (by decide) rfl rfl (rfl) (by omega) dX5_pass_129 (fun _ eS H locs hW => ?_)
            subst eS
            have hD2 : mpas0 M mm d q = smA (smA (smA M1 12 d ((mA M1 12 d) - 1)) 14 d ((mA M1 14 d) + 1)) 19 mm (nI (q + 1)) := by unfold mpas0; rw [if_neg h48, if_pos h75, ← eM1]; unfold mp2; rw [if_neg h89]
            rw [hD2] at hE
            exact hE hW dX5_pass_130
      · refine lv_aload_n hx hb dX5_pass_51 rfl (lv_at hl 1 rfl) ?_
        refine g12 (k := 12) (v := .ref (zad G 13 12)) hC hW (by decide) mF_X5_44 rfl dX5_pass_52 ?_
        refine lv_iload_n hx hb dX5_pass_55 rfl (lv_at hl 0 rfl) ?_
        refine lv_iconst (v := (-1)) hx hb dX5_pass_56 (by decide) ?_
        refine sm (i := d) (n := 3) (v := (-1)) hC hW (by decide) rfl rfl (rfl) (by omega) dX5_pass_57 (fun _ eS H locs hW => ?_)
        subst eS
        refine lv_aload_n hx hb dX5_pass_58 rfl (lv_at hl 1 rfl) ?_
        refine g12 (k := 11) (v := .ref (zad G 13 11)) hC hW (by decide) mF_X5_41 rfl dX5_pass_59 ?_
        refine lv_iload_n hx hb dX5_pass_62 rfl (lv_at hl 0 rfl) ?_
        refine lv_iconst (v := 1) hx hb dX5_pass_63 (by decide) ?_
        refine smz (i := d) (n := 3) (v := 1) hC hW (by decide) rfl rfl (rfl) (by omega) (by decide) dX5_pass_64 (fun _ eS H locs hW => ?_)
        subst eS
        refine lv_aload_n hx hb dX5_pass_65 rfl (lv_at hl 1 rfl) ?_
        refine lv_bipush (v := (-5)) hx hb dX5_pass_66 (by decide) ?_
        refine p12 (k := 30) (v := (-5)) hC hW (by decide) mF_X5_82 dX5_pass_68 (fun _ eS H locs hW => ?_)
        subst eS
        refine lv_aload_n hx hb dX5_pass_71 rfl (lv_at hl 1 rfl) ?_
        refine z_callV (As := []) (rest := []) (st1 := [.int 0]) hC hW LL_12 rfl rfl rfl (c_X5_work_f l G C (smF (smA (smA M 12 d (-1)) 11 d 1) 30 (-5)) (show ¬ ((-5 : Int32) = 0) by decide)) mw_X5_work mv_X5_work mM_X5_92 ⟨Nat.le_of_ble_eq_true rfl, Nat.le_of_ble_eq_true rfl⟩ rfl rfl hl.1 (lv_room (Nat.le_of_ble_eq_true rfl)) dX5_pass_72 rfl (fun H locs hW => ?_) ⟨Nat.zero_le _, Nat.zero_le _⟩
        refine lv_if_eq (tgt := 130) hx hb dX5_pass_75 (by decide) (fun _ => ?_) (fun q => absurd (by decide) q)
        have hD2 : mpas0 M mm d q = smF (smA (smA M 12 d (-1)) 11 d 1) 30 (-5) := by unfold mpas0; rw [if_pos h48]; rfl
        rw [hD2] at hE
        exact hE hW dX5_pass_130

set_option maxHeartbeats 4000000 in
set_option maxRecDepth 100000 in
theorem c_X5_pass_1 (l : Launch) (G : GG) (C : CS) (M : MS) {mm : Nat} (hm : mm < 2) (h0 : mF M 30 = 0) {d q : Nat} (hd : d < 3) (hdr : mA M 15 mm = nI d) (hq : mA M 19 mm = nI q) (hqb : q < 2 ^ 30)  : Ct l G yX5_pass cX5_pass 4 none 1 20 [.ref (zad G 12 0), .int (nI mm), .int 1] C M none C (mpas1 M mm d q) := by
  refine Ct_v (by decide) (Nat.le_of_ble_eq_true rfl) (fun {p e s m args below meth c A Q ls} hC hW hl hE => ?_)
  have hx := hC.1
  have hb := hC.2.1
  have hl : lv_has ls 4 [(0, .ref (zad G 12 0)), (1, .int (nI mm)), (2, .int 1)] := hl
  refine lv_aload_n hx hb dX5_pass_0 rfl (lv_at hl 0 rfl) ?_
  refine g12 (k := 15) (v := .ref (zad G 13 15)) hC hW (by decide) mF_X5_53 rfl dX5_pass_1 ?_
  refine lv_iload_n hx hb dX5_pass_4 rfl (lv_at hl 1 rfl) ?_
  refine am (i := mm) (n := 2) hC hW (by decide) rfl rfl (rfl) (by omega) dX5_pass_5 ?_
  refine z_top (y := nI d) (hdr) ?_
  refine lv_istore_n (lv' := [(3, .int (nI d)), (0, .ref (zad G 12 0)), (1, .int (nI mm)), (2, .int 1)]) hx hb dX5_pass_6 rfl hl (by decide) rfl (fun ls hl => ?_)
  refine lv_aload_n hx hb dX5_pass_7 rfl (lv_at hl 1 rfl) ?_
  refine g12 (k := 30) (v := .int (mF M 30)) hC hW (by decide) mF_X5_82 rfl dX5_pass_8 ?_
  refine lv_if_ne (tgt := 35) hx hb dX5_pass_11 (by decide) (fun h11 => ?_) (fun h11 => ?_)
  · exact absurd h0 h11
  · refine lv_iload_n hx hb dX5_pass_14 rfl (lv_at hl 3 rfl) ?_
    refine lv_if_eq (tgt := 35) hx hb dX5_pass_15 (by decide) (fun q => absurd q (by decide)) (fun _ => ?_)
    refine lv_aload_n hx hb dX5_pass_18 rfl (lv_at hl 1 rfl) ?_
    refine g12 (k := 19) (v := .ref (zad G 13 19)) hC hW (by decide) mF_X5_65 rfl dX5_pass_19 ?_
    refine lv_iload_n hx hb dX5_pass_22 rfl (lv_at hl 2 rfl) ?_
    refine am (i := mm) (n := 2) hC hW (by decide) rfl rfl (rfl) (by omega) dX5_pass_23 ?_
    refine z_top (y := nI q) (hq) ?_
    refine lv_bipush (v := 100) hx hb dX5_pass_24 (by decide) ?_
    refine zc_ne (i := q) (j := 100) (tgt := 35) hx hb rfl rfl (by omega) (by omega) dX5_pass_26 (by decide) (fun h26 => ?_) (fun h26 => ?_)
    · refine lv_aload_n hx hb dX5_pass_35 rfl (lv_at hl 1 rfl) ?_
      refine g12 (k := 30) (v := .int (mF M 30)) hC hW (by decide) mF_X5_82 rfl dX5_pass_36 ?_
      refine lv_if_ne (tgt := 71) hx hb dX5_pass_39 (by decide) (fun h39 => ?_) (fun h39 => ?_)
      · exact absurd h0 h39
      · refine lv_aload_n hx hb dX5_pass_42 rfl (lv_at hl 1 rfl) ?_
        refine g12 (k := 12) (v := .ref (zad G 13 12)) hC hW (by decide) mF_X5_44 rfl dX5_pass_43 ?_
        refine lv_iload_n hx hb dX5_pass_46 rfl (lv_at hl 0 rfl) ?_
        refine am (i := d) (n := 3) hC hW (by decide) rfl rfl (rfl) (by omega) dX5_pass_47 ?_
        refine lv_if_ne (tgt := 71) hx hb dX5_pass_48 (by decide) (fun h48 => ?_) (fun h48 => ?_)
        · refine lv_aload_n hx hb dX5_pass_71 rfl (lv_at hl 1 rfl) ?_
          refine z_callV (As := []) (rest := []) (st1 := [.int (bI (mF M 29 ≠ 0))]) hC hW LL_12 rfl rfl rfl (c_X5_work_0 l G C M h0) mw_X5_work mv_X5_work mM_X5_92 ⟨Nat.le_of_ble_eq_true rfl, Nat.le_of_ble_eq_true rfl⟩ rfl rfl hl.1 (lv_room (Nat.le_of_ble_eq_true rfl)) dX5_pass_72 rfl (fun H locs hW => ?_) ⟨Nat.zero_le _, Nat.zero_le _⟩
          obtain ⟨M1, eM1⟩ : ∃ z_, z_ = mwM M := ⟨_, rfl⟩
          rw [← eM1] at hW
          have hA1 : mA M1 = mA M := by rw [eM1]; exact mwM_A M
          refine zb_eq (tgt := 130) hx hb (mF M 29 ≠ 0) rfl dX5_pass_75 (by decide) (fun h75 => ?_) (fun h75 => ?_)
          · have hD2 : mpas1 M mm d q = M1 := by unfold mpas1; rw [if_neg h26]; unfold mpas0; rw [if_neg h48, if_neg h75, eM1]
            rw [hD2] at hE
            exact hE hW dX5_pass_130
          · refine lv_aload_n hx hb dX5_pass_78 rfl (lv_at hl 1 rfl) ?_
            refine g12 (k := 12) (v := .ref (zad G 13 12)) hC hW (by decide) mF_X5_44 rfl dX5_pass_79 ?_
            refine lv_iload_n hx hb dX5_pass_82 rfl (lv_at hl 0 rfl) ?_
            refine lv_aload_n hx hb dX5_pass_83 rfl (lv_at hl 1 rfl) ?_
            refine g12 (k := 12) (v := .ref (zad G 13 12)) hC hW (by decide) mF_X5_44 rfl dX5_pass_84 ?_
            refine lv_iload_n hx hb dX5_pass_87 rfl (lv_at hl 0 rfl) ?_
            refine am (i := d) (n := 3) hC hW (by decide) rfl rfl (rfl) (by omega) dX5_pass_88 ?_
            refine lv_if_le (tgt := 103) hx hb dX5_pass_89 (by decide) (fun h89 => ?_) (fun h89 => ?_)
            · refine lv_aload_n hx hb dX5_pass_103 rfl (lv_at hl 1 rfl) ?_
              refine g12 (k := 12) (v := .ref (zad G 13 12)) hC hW (by decide) mF_X5_44 rfl dX5_pass_104 ?_
              refine lv_iload_n hx hb dX5_pass_107 rfl (lv_at hl 0 rfl) ?_
              refine am (i := d) (n := 3) hC hW (by decide) rfl rfl (rfl) (by omega) dX5_pass_108 ?_
              refine sm (i := d) (n := 3) (v := mA M1 12 d) hC hW (by decide) rfl rfl (rfl) (by omega) dX5_pass_109 (fun _ eS H locs hW => ?_)
              subst eS
              refine lv_aload_n hx hb dX5_pass_110 rfl (lv_at hl 1 rfl) ?_
              refine g12 (k := 14) (v := .ref (zad G 13 14)) hC hW (by decide) mF_X5_50 rfl dX5_pass_111 ?_
              refine lv_iload_n hx hb dX5_pass_114 rfl (lv_at hl 0 rfl) ?_
              refine lv_dup2_11 hx hb dX5_pass_115 rfl rfl ?_
              refine am (i := d) (n := 3) hC hW (by decide) rfl rfl (rfl) (by omega) dX5_pass_116 ?_
              refine lv_iconst (v := 1) hx hb dX5_pass_117 (by decide) ?_
              refine lv_iadd hx hb dX5_pass_118 ?_
              refine sm (i := d) (n := 3) (v := (mA M1 14 d) + 1) hC hW (by decide) rfl rfl (rfl) (by omega) dX5_pass_119 (fun _ eS H locs hW => ?_)
              subst eS
              refine lv_aload_n hx hb dX5_pass_120 rfl (lv_at hl 1 rfl) ?_
              refine g12 (k := 19) (v := .ref (zad G 13 19)) hC hW (by decide) mF_X5_65 rfl dX5_pass_121 ?_
              refine lv_iload_n hx hb dX5_pass_124 rfl (lv_at hl 2 rfl) ?_
              refine lv_dup2_11 hx hb dX5_pass_125 rfl rfl ?_
              refine am (i := mm) (n := 2) hC hW (by decide) rfl rfl (rfl) (by omega) dX5_pass_126 ?_
              refine z_top (y := nI q) (by show mA M1 19 mm = nI q; rw [hA1]; exact hq) ?_
              refine lv_iconst (v := 1) hx hb dX5_pass_127 (by decide) ?_
              refine zi_add (i := q) (j := 1) hx hb rfl rfl dX5_pass_128 ?_
              refine sm (i := mm) (n := 2) (v := nI (q + 1)) hC hW (by decide) rfl rfl (rfl) (by omega) dX5_pass_129 (fun _ eS H locs hW => ?_)
              subst eS
              have hD2 : mpas1 M mm d q = smA (smA (smA M1 12 d (mA M1 12 d)) 14 d ((mA M1 14 d) + 1)) 19 mm (nI (q + 1)) := by unfold mpas1; rw [if_neg h26]; unfold mpas0; rw [if_neg h48, if_pos h75, ← eM1]; unfold mp2; rw [if_pos h89]
              rw [hD2] at hE
              exact hE hW dX5_pass_130
            · refine lv_aload_n hx hb dX5_pass_92 rfl (lv_at hl 1 rfl) ?_
              refine g12 (k := 12) (v := .ref (zad G 13 12)) hC hW (by decide) mF_X5_44 rfl dX5_pass_93 ?_
              refine lv_iload_n hx hb dX5_pass_96 rfl (lv_at hl 0 rfl) ?_
              refine am (i := d) (n := 3) hC hW (by decide) rfl rfl (rfl) (by omega) dX5_pass_97 ?_
              refine lv_iconst (v := 1) hx hb dX5_pass_98 (by decide) ?_
              refine lv_isub hx hb dX5_pass_99 ?_
              refine lv_goto (tgt := 109) hx hb dX5_pass_100 (by decide) ?_
              refine sm (i := d) (n := 3) (v := (mA M1 12 d) - 1) hC hW (by decide) rfl rfl (rfl) (by omega) dX5_pass_109 (fun _ eS H locs hW => ?_)
              subst eS
              refine lv_aload_n hx hb dX5_pass_110 rfl (lv_at hl 1 rfl) ?_
              refine g12 (k := 14) (v := .ref (zad G 13 14)) hC hW (by decide) mF_X5_50 rfl dX5_pass_111 ?_
              refine lv_iload_n hx hb dX5_pass_114 rfl (lv_at hl 0 rfl) ?_
              refine lv_dup2_11 hx hb dX5_pass_115 rfl rfl ?_
              refine am (i := d) (n := 3) hC hW (by decide) rfl rfl (rfl) (by omega) dX5_pass_116 ?_
              refine lv_iconst (v := 1) hx hb dX5_pass_117 (by decide) ?_
              refine lv_iadd hx hb dX5_pass_118 ?_
              refine sm (i := d) (n := 3) (v := (mA M1 14 d) + 1) hC hW (by decide) rfl rfl (rfl) (by omega) dX5_pass_119 (fun _ eS H locs hW => ?_)
              subst eS
              refine lv_aload_n hx hb dX5_pass_120 rfl (lv_at hl 1 rfl) ?_
              refine g12 (k := 19) (v := .ref (zad G 13 19)) hC hW (by decide) mF_X5_65 rfl dX5_pass_121 ?_
              refine lv_iload_n hx hb dX5_pass_124 rfl (lv_at hl 2 rfl) ?_
              refine lv_dup2_11 hx hb dX5_pass_125 rfl rfl ?_
              refine am (i := mm) (n := 2) hC hW (by decide) rfl rfl (rfl) (by omega) dX5_pass_126 ?_
              refine z_top (y := nI q) (by show mA M1 19 mm = nI q; rw [hA1]; exact hq) ?_
              refine lv_iconst (v := 1) hx hb dX5_pass_127 (by decide) ?_
              refine zi_add (i := q) (j := 1) hx hb rfl rfl dX5_pass_128 ?_
              refine sm (i := mm) (n := 2) (v := nI (q + 1)) hC hW (by decide) rfl rfl (rfl) (by omega) dX5_pass_129 (fun _ eS H locs hW => ?_)
              subst eS
              have hD2 : mpas1 M mm d q = smA (smA (smA M1 12 d ((mA M1 12 d) - 1)) 14 d ((mA M1 14 d) + 1)) 19 mm (nI (q + 1)) := by unfold mpas1; rw [if_neg h26]; unfold mpas0; rw [if_neg h48, if_pos h75, ← eM1]; unfold mp2; rw [if_neg h89]
              rw [hD2] at hE
              exact hE hW dX5_pass_130
        · refine lv_aload_n hx hb dX5_pass_51 rfl (lv_at hl 1 rfl) ?_
          refine g12 (k := 12) (v := .ref (zad G 13 12)) hC hW (by decide) mF_X5_44 rfl dX5_pass_52 ?_
          refine lv_iload_n hx hb dX5_pass_55 rfl (lv_at hl 0 rfl) ?_
          refine lv_iconst (v := (-1)) hx hb dX5_pass_56 (by decide) ?_
          refine sm (i := d) (n := 3) (v := (-1)) hC hW (by decide) rfl rfl (rfl) (by omega) dX5_pass_57 (fun _ eS H locs hW => ?_)
          subst eS
          refine lv_aload_n hx hb dX5_pass_58 rfl (lv_at hl 1 rfl) ?_
          refine g12 (k := 11) (v := .ref (zad G 13 11)) hC hW (by decide) mF_X5_41 rfl dX5_pass_59 ?_
          refine lv_iload_n hx hb dX5_pass_62 rfl (lv_at hl 0 rfl) ?_
          refine lv_iconst (v := 1) hx hb dX5_pass_63 (by decide) ?_
          refine smz (i := d) (n := 3) (v := 1) hC hW (by decide) rfl rfl (rfl) (by omega) (by decide) dX5_pass_64 (fun _ eS H locs hW => ?_)
          subst eS
          refine lv_aload_n hx hb dX5_pass_65 rfl (lv_at hl 1 rfl) ?_
          refine lv_bipush (v := (-5)) hx hb dX5_pass_66 (by decide) ?_
          refine p12 (k := 30) (v := (-5)) hC hW (by decide) mF_X5_82 dX5_pass_68 (fun _ eS H locs hW => ?_)
          subst eS
          refine lv_aload_n hx hb dX5_pass_71 rfl (lv_at hl 1 rfl) ?_
          refine z_callV (As := []) (rest := []) (st1 := [.int 0]) hC hW LL_12 rfl rfl rfl (c_X5_work_f l G C (smF (smA (smA M 12 d (-1)) 11 d 1) 30 (-5)) (show ¬ ((-5 : Int32) = 0) by decide)) mw_X5_work mv_X5_work mM_X5_92 ⟨Nat.le_of_ble_eq_true rfl, Nat.le_of_ble_eq_true rfl⟩ rfl rfl hl.1 (lv_room (Nat.le_of_ble_eq_true rfl)) dX5_pass_72 rfl (fun H locs hW => ?_) ⟨Nat.zero_le _, Nat.zero_le _⟩
          refine lv_if_eq (tgt := 130) hx hb dX5_pass_75 (by decide) (fun _ => ?_) (fun q => absurd (by decide) q)
          have hD2 : mpas1 M mm d q = smF (smA (smA M 12 d (-1)) 11 d 1) 30 (-5) := by unfold mpas1; rw [if_neg h26]; unfold mpas0; rw [if_pos h48]; rfl
          rw [hD2] at hE
          exact hE hW dX5_pass_130
    · refine lv_aload_n hx hb dX5_pass_29 rfl (lv_at hl 1 rfl) ?_
      refine lv_bipush (v := (-6)) hx hb dX5_pass_30 (by decide) ?_
      refine p12 (k := 30) (v := (-6)) hC hW (by decide) mF_X5_82 dX5_pass_32 (fun _ eS H locs hW => ?_)
      subst eS
      refine lv_aload_n hx hb dX5_pass_35 rfl (lv_at hl 1 rfl) ?_
      refine g12 (k := 30) (v := .int (-6)) hC hW (by decide) mF_X5_82 rfl dX5_pass_36 ?_
      refine lv_if_ne (tgt := 71) hx hb dX5_pass_39 (by decide) (fun _ => ?_) (fun q => absurd q (by decide))
      refine lv_aload_n hx hb dX5_pass_71 rfl (lv_at hl 1 rfl) ?_
      refine z_callV (As := []) (rest := []) (st1 := [.int 0]) hC hW LL_12 rfl rfl rfl (c_X5_work_f l G C (smF M 30 (-6)) (show ¬ ((-6 : Int32) = 0) by decide)) mw_X5_work mv_X5_work mM_X5_92 ⟨Nat.le_of_ble_eq_true rfl, Nat.le_of_ble_eq_true rfl⟩ rfl rfl hl.1 (lv_room (Nat.le_of_ble_eq_true rfl)) dX5_pass_72 rfl (fun H locs hW => ?_) ⟨Nat.zero_le _, Nat.zero_le _⟩
      refine lv_if_eq (tgt := 130) hx hb dX5_pass_75 (by decide) (fun _ => ?_) (fun q => absurd (by decide) q)
      have hD2 : mpas1 M mm d q = smF M 30 (-6) := by unfold mpas1; rw [if_pos h26]
      rw [hD2] at hE
      exact hE hW dX5_pass_130

theorem mpas0_w {M : MS} {mm d q : Nat} (h0 : mF M 30 = 0) : mF (mpas0 M mm d q) 30 = (if mA M 12 d = 0 then -5 else if mF M 29 ≠ 0 then 0 else -4) := by
  unfold mpas0
  split
  · rfl
  · split
    · rename_i h1 h2; exact mwM_w h0 h2
    · rename_i h1 h2; exact mwM_c h2
theorem mpas0_A {M : MS} {mm d q j i : Nat} (h : j ≠ 11 ∧ j ≠ 12 ∧ j ≠ 14 ∧ j ≠ 19) : mA (mpas0 M mm d q) j i = mA M j i := by
  unfold mpas0
  split
  · unfold mpJ; rw [mA_smF, mA_smA, if_neg (by omega), mA_smA, if_neg (by omega)]
  · split
    · unfold mp2; rw [mA_smA, if_neg (by omega), mA_smA, if_neg (by omega), mA_smA, if_neg (by omega), mwM_A]
    · rw [mwM_A]
theorem mpas0_s {M : MS} {mm d q : Nat} (h0 : mF M 30 = 0) (hz : mF (mpas0 M mm d q) 30 = 0) : mA (mpas0 M mm d q) 19 mm = nI (q + 1) := by
  have hw := mpas0_w (mm := mm) (d := d) (q := q) h0
  rw [hz] at hw
  unfold mpas0
  split
  · rename_i h1; rw [if_pos h1] at hw; exact absurd hw (by decide)
  · rename_i h1; rw [if_neg h1] at hw
    split
    · unfold mp2; rw [mA_smA, if_pos ⟨rfl, rfl⟩]
    · rename_i h2; rw [if_neg h2] at hw; exact absurd hw (by decide)
theorem mpas1_z {M : MS} {mm d q : Nat} (hz : mF (mpas1 M mm d q) 30 = 0) : q ≠ 100 ∧ mpas1 M mm d q = mpas0 M mm d q := by
  unfold mpas1 at hz ⊢
  split at hz
  · exact absurd hz (show ¬ ((-6 : Int32) = 0) by decide)
  · rename_i h; exact ⟨h, if_neg h⟩

set_option maxHeartbeats 4000000 in
set_option maxRecDepth 100000 in
theorem c_X5_write_f (l : Launch) (G : GG) (C : CS) (M : MS) {mm : Nat} (hm : mm < 2) (h0 : mF M 30 ≠ 0) (k v z : Int32) : Ct l G yX5_write cX5_write 5 none 2 43 [.ref (zad G 12 0), .int (nI mm), .int k, .int v, .int z] C M none C M := by
  refine Ct_v (by decide) (Nat.le_of_ble_eq_true rfl) (fun {p e s m args below meth c A Q ls} hC hW hl hE => ?_)
  have hx := hC.1
  have hb := hC.2.1
  have hl : lv_has ls 5 [(0, .ref (zad G 12 0)), (1, .int (nI mm)), (2, .int k), (3, .int v), (4, .int z)] := hl
  refine lv_aload_n hx hb dX5_write_0 rfl (lv_at hl 0 rfl) ?_
  refine lv_iload_n hx hb dX5_write_1 rfl (lv_at hl 1 rfl) ?_
  refine lv_iconst (v := 1) hx hb dX5_write_2 (by decide) ?_
  refine z_callV (As := [.int (nI mm), .int 1]) (rest := []) (st1 := []) hC hW LL_12 rfl rfl rfl (c_X5_pass_f l G C M hm h0 1) mw_X5_pass mv_X5_pass mM_X5_99 ⟨Nat.le_of_ble_eq_true rfl, Nat.le_of_ble_eq_true rfl⟩ rfl rfl hl.1 (lv_room (Nat.le_of_ble_eq_true rfl)) dX5_write_3 rfl (fun H locs hW => ?_) ⟨Nat.zero_le _, Nat.zero_le _⟩
  refine lv_aload_n hx hb dX5_write_6 rfl (lv_at hl 0 rfl) ?_
  refine g12 (k := 30) (v := .int (mF M 30)) hC hW (by decide) mF_X5_82 rfl dX5_write_7 ?_
  refine lv_if_ne (tgt := 35) hx hb dX5_write_10 (by decide) (fun h10 => ?_) (fun h10 => ?_)
  · exact hE hW dX5_write_35
  · exact absurd h10 h0

set_option maxHeartbeats 4000000 in
set_option maxRecDepth 100000 in
theorem c_X5_write_0 (l : Launch) (G : GG) (C : CS) (M : MS) {mm : Nat} (hm : mm < 2) (h0 : mF M 30 = 0) {d q : Nat} (hd : d < 3) (hdr : mA M 15 mm = nI d) (hq : mA M 19 mm = nI q) (hqb : q < 2 ^ 30) {t : Nat} (ht : t < 12) (htr : mA M 16 mm = nI t) (hq1 : q ≤ 100) (k v z : Int32) : Ct l G yX5_write cX5_write 5 none 2 43 [.ref (zad G 12 0), .int (nI mm), .int k, .int v, .int z] C M none C (mwri M mm d t q k v z) := by
  refine Ct_v (by decide) (Nat.le_of_ble_eq_true rfl) (fun {p e s m args below meth c A Q ls} hC hW hl hE => ?_)
  have hx := hC.1
  have hb := hC.2.1
  have hl : lv_has ls 5 [(0, .ref (zad G 12 0)), (1, .int (nI mm)), (2, .int k), (3, .int v), (4, .int z)] := hl
  refine lv_aload_n hx hb dX5_write_0 rfl (lv_at hl 0 rfl) ?_
  refine lv_iload_n hx hb dX5_write_1 rfl (lv_at hl 1 rfl) ?_
  refine lv_iconst (v := 1) hx hb dX5_write_2 (by decide) ?_
  refine z_callV (As := [.int (nI mm), .int 1]) (rest := []) (st1 := []) hC hW LL_12 rfl rfl rfl (c_X5_pass_1 l G C M hm h0 hd hdr hq (by omega)) mw_X5_pass mv_X5_pass mM_X5_99 ⟨Nat.le_of_ble_eq_true rfl, Nat.le_of_ble_eq_true rfl⟩ rfl rfl hl.1 (lv_room (Nat.le_of_ble_eq_true rfl)) dX5_write_3 rfl (fun H locs hW => ?_) ⟨Nat.zero_le _, Nat.zero_le _⟩
  obtain ⟨M1, eM1⟩ : ∃ z_, z_ = mpas1 M mm d q := ⟨_, rfl⟩
  rw [← eM1] at hW
  refine lv_aload_n hx hb dX5_write_6 rfl (lv_at hl 0 rfl) ?_
  refine g12 (k := 30) (v := .int (mF M1 30)) hC hW (by decide) mF_X5_82 rfl dX5_write_7 ?_
  refine lv_if_ne (tgt := 35) hx hb dX5_write_10 (by decide) (fun h10 => ?_) (fun h10 => ?_)
  · have hD2 : mwri M mm d t q k v z = M1 := by unfold mwri; rw [← eM1, if_neg h10]
    rw [hD2] at hE
    exact hE hW dX5_write_35
  · obtain ⟨hq1, hE1⟩ := mpas1_z (M := M) (mm := mm) (d := d) (q := q) (by rw [← eM1]; exact h10)
    have hz1 : mF (mpas0 M mm d q) 30 = 0 := by rw [← hE1, ← eM1]; exact h10
    have ht1 : mA M1 16 mm = nI t := by rw [eM1, hE1, mpas0_A (by decide)]; exact htr
    have hs1 : mA M1 19 mm = nI (q + 1) := by rw [eM1, hE1]; exact mpas0_s h0 hz1
    refine lv_aload_n hx hb dX5_write_13 rfl (lv_at hl 0 rfl) ?_
    refine lv_aload_n hx hb dX5_write_14 rfl (lv_at hl 0 rfl) ?_
    refine g12 (k := 16) (v := .ref (zad G 13 16)) hC hW (by decide) mF_X5_56 rfl dX5_write_15 ?_
    refine lv_iload_n hx hb dX5_write_18 rfl (lv_at hl 1 rfl) ?_
    refine am (i := mm) (n := 2) hC hW (by decide) rfl rfl (rfl) (by omega) dX5_write_19 ?_
    refine z_top (y := nI t) (ht1) ?_
    refine lv_aload_n hx hb dX5_write_20 rfl (lv_at hl 0 rfl) ?_
    refine g12 (k := 19) (v := .ref (zad G 13 19)) hC hW (by decide) mF_X5_65 rfl dX5_write_21 ?_
    refine lv_iload_n hx hb dX5_write_24 rfl (lv_at hl 1 rfl) ?_
    refine am (i := mm) (n := 2) hC hW (by decide) rfl rfl (rfl) (by omega) dX5_write_25 ?_
    refine z_top (y := nI (q + 1)) (hs1) ?_
    refine lv_iconst (v := 1) hx hb dX5_write_26 (by decide) ?_
    refine zi_sub (i := q + 1) (j := 1) hx hb rfl rfl (by omega) dX5_write_27 ?_
    refine z_top (y := nI q) (by rw [show q + 1 - 1 = q by omega]) ?_
    refine lv_iload_n hx hb dX5_write_28 rfl (lv_at hl 2 rfl) ?_
    refine lv_iload_n hx hb dX5_write_29 rfl (lv_at hl 3 rfl) ?_
    refine lv_iload hx hb dX5_write_30 (lv_at hl 4 rfl) ?_
    refine z_callV (As := [.int (nI t), .int (nI q), .int k, .int v, .int z]) (rest := []) (st1 := []) hC hW LL_12 rfl rfl rfl (c_X5_put l G C M1 ht (q := q) (by omega) k v z) mw_X5_put mv_X5_put mM_X5_103 ⟨Nat.le_of_ble_eq_true rfl, Nat.le_of_ble_eq_true rfl⟩ rfl rfl hl.1 (lv_room (Nat.le_of_ble_eq_true rfl)) dX5_write_32 rfl (fun H locs hW => ?_) ⟨Nat.zero_le _, Nat.zero_le _⟩
    obtain ⟨M2, eM2⟩ : ∃ z_, z_ = mput M1 t q k v z := ⟨_, rfl⟩
    rw [← eM2] at hW
    have hD2 : mwri M mm d t q k v z = M2 := by unfold mwri; rw [← eM1, if_pos h10, eM2]
    rw [hD2] at hE
    exact hE hW dX5_write_35

set_option maxHeartbeats 4000000 in
set_option maxRecDepth 100000 in
theorem c_X5_take (l : Launch) (G : GG) (C : CS) (M : MS) {mm : Nat} (hm : mm < 2) (h0 : mF M 30 = 0) {d q : Nat} (hd : d < 3) (hdr : mA M 15 mm = nI d) (hq : mA M 19 mm = nI q) (hqb : q < 2 ^ 30) {t : Nat} (ht : t < 12) (htr : mA M 16 mm = nI t) (hq1 : q < 100) : Ct l G yX5_take cX5_take 3 (some .int) 2 43 [.ref (zad G 12 0), .int (nI mm)] C M (some (.int (nI (100 * t + q)))) C (mtak M mm d t q) := by
  refine Ct_i (by decide) (Nat.le_of_ble_eq_true rfl) (fun {p e s m args below meth c A Q ls} hC hW hl hE => ?_)
  have hx := hC.1
  have hb := hC.2.1
  have hl : lv_has ls 3 [(0, .ref (zad G 12 0)), (1, .int (nI mm))] := hl
  refine lv_bipush (v := 100) hx hb dX5_take_0 (by decide) ?_
  refine lv_aload_n hx hb dX5_take_2 rfl (lv_at hl 0 rfl) ?_
  refine g12 (k := 16) (v := .ref (zad G 13 16)) hC hW (by decide) mF_X5_56 rfl dX5_take_3 ?_
  refine lv_iload_n hx hb dX5_take_6 rfl (lv_at hl 1 rfl) ?_
  refine am (i := mm) (n := 2) hC hW (by decide) rfl rfl (rfl) (by omega) dX5_take_7 ?_
  refine z_top (y := nI t) (htr) ?_
  refine zi_mul (i := 100) (j := t) hx hb rfl rfl dX5_take_8 ?_
  refine lv_aload_n hx hb dX5_take_9 rfl (lv_at hl 0 rfl) ?_
  refine g12 (k := 19) (v := .ref (zad G 13 19)) hC hW (by decide) mF_X5_65 rfl dX5_take_10 ?_
  refine lv_iload_n hx hb dX5_take_13 rfl (lv_at hl 1 rfl) ?_
  refine am (i := mm) (n := 2) hC hW (by decide) rfl rfl (rfl) (by omega) dX5_take_14 ?_
  refine z_top (y := nI q) (hq) ?_
  refine zi_add (i := 100 * t) (j := q) hx hb rfl rfl dX5_take_15 ?_
  refine lv_istore_n (lv' := [(2, .int (nI (100 * t + q))), (0, .ref (zad G 12 0)), (1, .int (nI mm))]) hx hb dX5_take_16 rfl hl (by decide) rfl (fun ls hl => ?_)
  refine lv_aload_n hx hb dX5_take_17 rfl (lv_at hl 1 rfl) ?_
  refine lv_iload_n hx hb dX5_take_18 rfl (lv_at hl 2 rfl) ?_
  refine lv_iconst (v := 0) hx hb dX5_take_19 (by decide) ?_
  refine z_callV (As := [.int (nI mm), .int 0]) (rest := []) (st1 := []) hC hW LL_12 rfl rfl rfl (c_X5_pass_0 l G C M hm h0 hd hdr hq (by omega)) mw_X5_pass mv_X5_pass mM_X5_99 ⟨Nat.le_of_ble_eq_true rfl, Nat.le_of_ble_eq_true rfl⟩ rfl rfl hl.1 (lv_room (Nat.le_of_ble_eq_true rfl)) dX5_take_20 rfl (fun H locs hW => ?_) ⟨Nat.zero_le _, Nat.zero_le _⟩
  obtain ⟨M1, eM1⟩ : ∃ z_, z_ = mpas0 M mm d q := ⟨_, rfl⟩
  rw [← eM1] at hW
  refine lv_aload_n hx hb dX5_take_23 rfl (lv_at hl 1 rfl) ?_
  refine g12 (k := 30) (v := .int (mF M1 30)) hC hW (by decide) mF_X5_82 rfl dX5_take_24 ?_
  refine lv_if_ne (tgt := 45) hx hb dX5_take_27 (by decide) (fun h27 => ?_) (fun h27 => ?_)
  · refine lv_iload_n hx hb dX5_take_45 rfl (lv_at hl 0 rfl) ?_
    have hD2 : mtak M mm d t q = M1 := by unfold mtak; rw [← eM1, if_neg h27]
    rw [hD2] at hE
    exact hE hW rfl dX5_take_46
  · refine lv_aload_n hx hb dX5_take_30 rfl (lv_at hl 1 rfl) ?_
    refine g12 (k := 8) (v := .ref (zad G 13 8)) hC hW (by decide) mF_X5_31 rfl dX5_take_31 ?_
    refine lv_iload_n hx hb dX5_take_34 rfl (lv_at hl 0 rfl) ?_
    refine amz (i := 100 * t + q) (n := 1200) hC hW (by decide) rfl rfl (rfl) (by omega) dX5_take_35 ?_
    refine lv_if_eq (tgt := 45) hx hb dX5_take_36 (by decide) (fun h36 => ?_) (fun h36 => ?_)
    · refine lv_iload_n hx hb dX5_take_45 rfl (lv_at hl 0 rfl) ?_
      have hD2 : mtak M mm d t q = M1 := by unfold mtak; rw [← eM1, if_pos h27, if_pos h36]
      rw [hD2] at hE
      exact hE hW rfl dX5_take_46
    · refine lv_aload_n hx hb dX5_take_39 rfl (lv_at hl 1 rfl) ?_
      refine lv_bipush (v := (-7)) hx hb dX5_take_40 (by decide) ?_
      refine p12 (k := 30) (v := (-7)) hC hW (by decide) mF_X5_82 dX5_take_42 (fun _ eS H locs hW => ?_)
      subst eS
      refine lv_iload_n hx hb dX5_take_45 rfl (lv_at hl 0 rfl) ?_
      have hD2 : mtak M mm d t q = smF M1 30 (-7) := by unfold mtak; rw [← eM1, if_pos h27, if_neg h36]
      rw [hD2] at hE
      exact hE hW rfl dX5_take_46

set_option maxHeartbeats 4000000 in
set_option maxRecDepth 100000 in
theorem c_X5_close_n (l : Launch) (G : GG) (C : CS) (M : MS) {mm : Nat} (hm : mm < 2) (hs : mA M 18 mm = 0) (b : Int32) : Ct l G yX5_close cX5_close 4 none 1 25 [.ref (zad G 12 0), .int (nI mm), .int b] C M none C M := by
  refine Ct_v (by decide) (Nat.le_of_ble_eq_true rfl) (fun {p e s m args below meth c A Q ls} hC hW hl hE => ?_)
  have hx := hC.1
  have hb := hC.2.1
  have hl : lv_has ls 4 [(0, .ref (zad G 12 0)), (1, .int (nI mm)), (2, .int b)] := hl
  refine lv_aload_n hx hb dX5_close_0 rfl (lv_at hl 0 rfl) ?_
  refine g12 (k := 18) (v := .ref (zad G 13 18)) hC hW (by decide) mF_X5_62 rfl dX5_close_1 ?_
  refine lv_iload_n hx hb dX5_close_4 rfl (lv_at hl 1 rfl) ?_
  refine amz (i := mm) (n := 2) hC hW (by decide) rfl rfl (rfl) (by omega) dX5_close_5 ?_
  refine lv_if_eq (tgt := 35) hx hb dX5_close_6 (by decide) (fun h6 => ?_) (fun h6 => ?_)
  · refine lv_iconst (v := 0) hx hb dX5_close_35 (by decide) ?_
    refine lv_istore_n (lv' := [(3, .int 0), (0, .ref (zad G 12 0)), (1, .int (nI mm)), (2, .int b)]) hx hb dX5_close_36 rfl hl (by decide) rfl (fun ls hl => ?_)
    refine lv_iload_n hx hb dX5_close_37 rfl (lv_at hl 0 rfl) ?_
    refine lv_if_eq (tgt := 122) hx hb dX5_close_38 (by decide) (fun _ => ?_) (fun q => absurd (by decide) q)
    exact hE hW dX5_close_122
  · exact absurd hs h6

set_option maxHeartbeats 4000000 in
set_option maxRecDepth 100000 in
theorem c_X5_close_f (l : Launch) (G : GG) (C : CS) (M : MS) {mm : Nat} (hm : mm < 2) (h0 : mF M 30 = 0) (b : Int32) : Ct l G yX5_close cX5_close 4 none 1 25 [.ref (zad G 12 0), .int (nI mm), .int b] C M none C M := by
  refine Ct_v (by decide) (Nat.le_of_ble_eq_true rfl) (fun {p e s m args below meth c A Q ls} hC hW hl hE => ?_)
  have hx := hC.1
  have hb := hC.2.1
  have hl : lv_has ls 4 [(0, .ref (zad G 12 0)), (1, .int (nI mm)), (2, .int b)] := hl
  refine lv_aload_n hx hb dX5_close_0 rfl (lv_at hl 0 rfl) ?_
  refine g12 (k := 18) (v := .ref (zad G 13 18)) hC hW (by decide) mF_X5_62 rfl dX5_close_1 ?_
  refine lv_iload_n hx hb dX5_close_4 rfl (lv_at hl 1 rfl) ?_
  refine amz (i := mm) (n := 2) hC hW (by decide) rfl rfl (rfl) (by omega) dX5_close_5 ?_
  refine lv_if_eq (tgt := 35) hx hb dX5_close_6 (by decide) (fun h6 => ?_) (fun h6 => ?_)
  · refine lv_iconst (v := 0) hx hb dX5_close_35 (by decide) ?_
    refine lv_istore_n (lv' := [(3, .int 0), (0, .ref (zad G 12 0)), (1, .int (nI mm)), (2, .int b)]) hx hb dX5_close_36 rfl hl (by decide) rfl (fun ls hl => ?_)
    refine lv_iload_n hx hb dX5_close_37 rfl (lv_at hl 0 rfl) ?_
    refine lv_if_eq (tgt := 122) hx hb dX5_close_38 (by decide) (fun _ => ?_) (fun q => absurd (by decide) q)
    exact hE hW dX5_close_122
  · refine lv_aload_n hx hb dX5_close_9 rfl (lv_at hl 0 rfl) ?_
    refine g12 (k := 30) (v := .int (mF M 30)) hC hW (by decide) mF_X5_82 rfl dX5_close_10 ?_
    refine lv_if_eq (tgt := 35) hx hb dX5_close_13 (by decide) (fun h13 => ?_) (fun h13 => ?_)
    · refine lv_iconst (v := 0) hx hb dX5_close_35 (by decide) ?_
      refine lv_istore_n (lv' := [(3, .int 0), (0, .ref (zad G 12 0)), (1, .int (nI mm)), (2, .int b)]) hx hb dX5_close_36 rfl hl (by decide) rfl (fun ls hl => ?_)
      refine lv_iload_n hx hb dX5_close_37 rfl (lv_at hl 0 rfl) ?_
      refine lv_if_eq (tgt := 122) hx hb dX5_close_38 (by decide) (fun _ => ?_) (fun q => absurd (by decide) q)
      exact hE hW dX5_close_122
    · exact absurd h0 h13

set_option maxHeartbeats 4000000 in
set_option maxRecDepth 100000 in
theorem c_X5_close_1 (l : Launch) (G : GG) (C : CS) (M : MS) {mm : Nat} (hm : mm < 2) (hs : mA M 18 mm ≠ 0) (h0 : mF M 30 ≠ 0) {d t e0 b : Nat} (hd : d < 3) (hdr : mA M 15 mm = nI d) (ht : t < 12) (htr : mA M 16 mm = nI t) (he : mA M 2 t = nI e0) (heb : e0 ≤ 100) (hb1 : b ≤ 100) : Ct l G yX5_close cX5_close 4 none 1 25 [.ref (zad G 12 0), .int (nI mm), .int (nI b)] C M none C (mclo M mm d t e0 b) := by
  refine Ct_v (by decide) (Nat.le_of_ble_eq_true rfl) (fun {p e s m args below meth c A Q ls} hC hW hl hE => ?_)
  have hx := hC.1
  have hb := hC.2.1
  have hl : lv_has ls 4 [(0, .ref (zad G 12 0)), (1, .int (nI mm)), (2, .int (nI b))] := hl
  refine lv_aload_n hx hb dX5_close_0 rfl (lv_at hl 0 rfl) ?_
  refine g12 (k := 18) (v := .ref (zad G 13 18)) hC hW (by decide) mF_X5_62 rfl dX5_close_1 ?_
  refine lv_iload_n hx hb dX5_close_4 rfl (lv_at hl 1 rfl) ?_
  refine amz (i := mm) (n := 2) hC hW (by decide) rfl rfl (rfl) (by omega) dX5_close_5 ?_
  refine lv_if_eq (tgt := 35) hx hb dX5_close_6 (by decide) (fun h6 => ?_) (fun h6 => ?_)
  · exact absurd h6 hs
  · refine lv_aload_n hx hb dX5_close_9 rfl (lv_at hl 0 rfl) ?_
    refine g12 (k := 30) (v := .int (mF M 30)) hC hW (by decide) mF_X5_82 rfl dX5_close_10 ?_
    refine lv_if_eq (tgt := 35) hx hb dX5_close_13 (by decide) (fun h13 => ?_) (fun h13 => ?_)
    · exact absurd h13 h0
    · refine lv_aload_n hx hb dX5_close_16 rfl (lv_at hl 0 rfl) ?_
      refine g12 (k := 2) (v := .ref (zad G 13 2)) hC hW (by decide) mF_X5_13 rfl dX5_close_17 ?_
      refine lv_aload_n hx hb dX5_close_20 rfl (lv_at hl 0 rfl) ?_
      refine g12 (k := 16) (v := .ref (zad G 13 16)) hC hW (by decide) mF_X5_56 rfl dX5_close_21 ?_
      refine lv_iload_n hx hb dX5_close_24 rfl (lv_at hl 1 rfl) ?_
      refine am (i := mm) (n := 2) hC hW (by decide) rfl rfl (rfl) (by omega) dX5_close_25 ?_
      refine z_top (y := nI t) (htr) ?_
      refine am (i := t) (n := 12) hC hW (by decide) rfl rfl (rfl) (by omega) dX5_close_26 ?_
      refine z_top (y := nI e0) (he) ?_
      refine lv_iload_n hx hb dX5_close_27 rfl (lv_at hl 2 rfl) ?_
      refine zc_le (i := e0) (j := b) (tgt := 35) hx hb rfl rfl (by omega) (by omega) dX5_close_28 (by decide) (fun h28 => ?_) (fun h28 => ?_)
      · refine lv_iconst (v := 0) hx hb dX5_close_35 (by decide) ?_
        refine lv_istore_n (lv' := [(3, .int 0), (0, .ref (zad G 12 0)), (1, .int (nI mm)), (2, .int (nI b))]) hx hb dX5_close_36 rfl hl (by decide) rfl (fun ls hl => ?_)
        refine lv_iload_n hx hb dX5_close_37 rfl (lv_at hl 0 rfl) ?_
        refine lv_if_eq (tgt := 122) hx hb dX5_close_38 (by decide) (fun _ => ?_) (fun q => absurd (by decide) q)
        have hD2 : mclo M mm d t e0 b = M := by unfold mclo; rw [if_pos h28]
        rw [hD2] at hE
        exact hE hW dX5_close_122
      · refine lv_iconst (v := 1) hx hb dX5_close_31 (by decide) ?_
        refine lv_goto (tgt := 36) hx hb dX5_close_32 (by decide) ?_
        refine lv_istore_n (lv' := [(3, .int 1), (0, .ref (zad G 12 0)), (1, .int (nI mm)), (2, .int (nI b))]) hx hb dX5_close_36 rfl hl (by decide) rfl (fun ls hl => ?_)
        refine lv_iload_n hx hb dX5_close_37 rfl (lv_at hl 0 rfl) ?_
        refine lv_if_eq (tgt := 122) hx hb dX5_close_38 (by decide) (fun q => absurd q (by decide)) (fun _ => ?_)
        refine lv_aload_n hx hb dX5_close_41 rfl (lv_at hl 1 rfl) ?_
        refine g12 (k := 2) (v := .ref (zad G 13 2)) hC hW (by decide) mF_X5_13 rfl dX5_close_42 ?_
        refine lv_aload_n hx hb dX5_close_45 rfl (lv_at hl 1 rfl) ?_
        refine g12 (k := 16) (v := .ref (zad G 13 16)) hC hW (by decide) mF_X5_56 rfl dX5_close_46 ?_
        refine lv_iload_n hx hb dX5_close_49 rfl (lv_at hl 2 rfl) ?_
        refine am (i := mm) (n := 2) hC hW (by decide) rfl rfl (rfl) (by omega) dX5_close_50 ?_
        refine z_top (y := nI t) (htr) ?_
        refine am (i := t) (n := 12) hC hW (by decide) rfl rfl (rfl) (by omega) dX5_close_51 ?_
        refine z_top (y := nI e0) (he) ?_
        refine lv_bipush (v := 100) hx hb dX5_close_52 (by decide) ?_
        refine zc_ge (i := e0) (j := 100) (tgt := 122) hx hb rfl rfl (by omega) (by omega) dX5_close_54 (by decide) (fun h54 => ?_) (fun h54 => ?_)
        · have hD2 : mclo M mm d t e0 b = M := by unfold mclo; rw [if_neg (by omega), if_pos h54]
          rw [hD2] at hE
          exact hE hW dX5_close_122
        · refine lv_aload_n hx hb dX5_close_57 rfl (lv_at hl 1 rfl) ?_
          refine g12 (k := 11) (v := .ref (zad G 13 11)) hC hW (by decide) mF_X5_41 rfl dX5_close_58 ?_
          refine lv_aload_n hx hb dX5_close_61 rfl (lv_at hl 1 rfl) ?_
          refine g12 (k := 15) (v := .ref (zad G 13 15)) hC hW (by decide) mF_X5_53 rfl dX5_close_62 ?_
          refine lv_iload_n hx hb dX5_close_65 rfl (lv_at hl 2 rfl) ?_
          refine am (i := mm) (n := 2) hC hW (by decide) rfl rfl (rfl) (by omega) dX5_close_66 ?_
          refine z_top (y := nI d) (hdr) ?_
          refine amz (i := d) (n := 3) hC hW (by decide) rfl rfl (rfl) (by omega) dX5_close_67 ?_
          refine lv_if_ne (tgt := 122) hx hb dX5_close_68 (by decide) (fun h68 => ?_) (fun h68 => ?_)
          · have hD2 : mclo M mm d t e0 b = M := by unfold mclo; rw [if_neg (by omega), if_neg (by omega), if_neg h68]
            rw [hD2] at hE
            exact hE hW dX5_close_122
          · refine lv_aload_n hx hb dX5_close_71 rfl (lv_at hl 1 rfl) ?_
            refine lv_dup hx hb dX5_close_72 rfl ?_
            refine g12 (k := 26) (v := .int (mF M 26)) hC hW (by decide) mF_X5_96 rfl dX5_close_73 ?_
            refine lv_iconst (v := 1) hx hb dX5_close_76 (by decide) ?_
            refine lv_iadd hx hb dX5_close_77 ?_
            refine p12 (k := 26) (v := (mF M 26) + 1) hC hW (by decide) mF_X5_96 dX5_close_78 (fun _ eS H locs hW => ?_)
            subst eS
            refine lv_aload_n hx hb dX5_close_81 rfl (lv_at hl 1 rfl) ?_
            refine lv_aload_n hx hb dX5_close_82 rfl (lv_at hl 1 rfl) ?_
            refine g12 (k := 16) (v := .ref (zad G 13 16)) hC hW (by decide) mF_X5_56 rfl dX5_close_83 ?_
            refine lv_iload_n hx hb dX5_close_86 rfl (lv_at hl 2 rfl) ?_
            refine am (i := mm) (n := 2) hC hW (by decide) rfl rfl (rfl) (by omega) dX5_close_87 ?_
            refine z_top (y := nI t) (htr) ?_
            refine lv_aload_n hx hb dX5_close_88 rfl (lv_at hl 1 rfl) ?_
            refine g12 (k := 2) (v := .ref (zad G 13 2)) hC hW (by decide) mF_X5_13 rfl dX5_close_89 ?_
            refine lv_aload_n hx hb dX5_close_92 rfl (lv_at hl 1 rfl) ?_
            refine g12 (k := 16) (v := .ref (zad G 13 16)) hC hW (by decide) mF_X5_56 rfl dX5_close_93 ?_
            refine lv_iload_n hx hb dX5_close_96 rfl (lv_at hl 2 rfl) ?_
            refine am (i := mm) (n := 2) hC hW (by decide) rfl rfl (rfl) (by omega) dX5_close_97 ?_
            refine z_top (y := nI t) (htr) ?_
            refine am (i := t) (n := 12) hC hW (by decide) rfl rfl (rfl) (by omega) dX5_close_98 ?_
            refine z_top (y := nI e0) (he) ?_
            refine lv_iconst (v := 4) hx hb dX5_close_99 (by decide) ?_
            refine lv_iconst (v := 0) hx hb dX5_close_100 (by decide) ?_
            refine lv_iconst (v := 0) hx hb dX5_close_101 (by decide) ?_
            refine z_callV (As := [.int (nI t), .int (nI e0), .int 4, .int 0, .int 0]) (rest := []) (st1 := []) hC hW LL_12 rfl rfl rfl (c_X5_put l G C (smF M 26 ((mF M 26) + 1)) ht (q := e0) (by omega) 4 0 0) mw_X5_put mv_X5_put mM_X5_103 ⟨Nat.le_of_ble_eq_true rfl, Nat.le_of_ble_eq_true rfl⟩ rfl rfl hl.1 (lv_room (Nat.le_of_ble_eq_true rfl)) dX5_close_102 rfl (fun H locs hW => ?_) ⟨Nat.zero_le _, Nat.zero_le _⟩
            obtain ⟨M1, eM1⟩ : ∃ z_, z_ = mput (smF M 26 ((mF M 26) + 1)) t e0 4 0 0 := ⟨_, rfl⟩
            rw [← eM1] at hW
            refine lv_aload_n hx hb dX5_close_105 rfl (lv_at hl 1 rfl) ?_
            refine g12 (k := 19) (v := .ref (zad G 13 19)) hC hW (by decide) mF_X5_65 rfl dX5_close_106 ?_
            refine lv_iload_n hx hb dX5_close_109 rfl (lv_at hl 2 rfl) ?_
            refine lv_aload_n hx hb dX5_close_110 rfl (lv_at hl 1 rfl) ?_
            refine g12 (k := 2) (v := .ref (zad G 13 2)) hC hW (by decide) mF_X5_13 rfl dX5_close_111 ?_
            refine lv_aload_n hx hb dX5_close_114 rfl (lv_at hl 1 rfl) ?_
            refine g12 (k := 16) (v := .ref (zad G 13 16)) hC hW (by decide) mF_X5_56 rfl dX5_close_115 ?_
            refine lv_iload_n hx hb dX5_close_118 rfl (lv_at hl 2 rfl) ?_
            refine am (i := mm) (n := 2) hC hW (by decide) rfl rfl (rfl) (by omega) dX5_close_119 ?_
            refine z_top (y := nI t) (by rw [eM1]; exact htr) ?_
            refine am (i := t) (n := 12) hC hW (by decide) rfl rfl (rfl) (by omega) dX5_close_120 ?_
            refine sm (i := mm) (n := 2) (v := mA M1 2 t) hC hW (by decide) rfl rfl (rfl) (by omega) dX5_close_121 (fun _ eS H locs hW => ?_)
            subst eS
            have hD2 : mclo M mm d t e0 b = smA M1 19 mm (mA M1 2 t) := by unfold mclo; rw [if_neg (by omega), if_neg (by omega), if_pos h68]; unfold mclo1; rw [← eM1]
            rw [hD2] at hE
            exact hE hW dX5_close_122

set_option maxHeartbeats 4000000 in
set_option maxRecDepth 100000 in
theorem c_X5_unmount_n (l : Launch) (G : GG) (C : CS) (M : MS) {mm : Nat} (hm : mm < 2) (hd : mA M 15 mm = -1) : Ct l G yX5_unmount cX5_unmount 2 none 0 0 [.ref (zad G 12 0), .int (nI mm)] C M none C M := by
  refine Ct_v (by decide) (Nat.le_of_ble_eq_true rfl) (fun {p e s m args below meth c A Q ls} hC hW hl hE => ?_)
  have hx := hC.1
  have hb := hC.2.1
  have hl : lv_has ls 2 [(0, .ref (zad G 12 0)), (1, .int (nI mm))] := hl
  refine lv_aload_n hx hb dX5_unmount_0 rfl (lv_at hl 0 rfl) ?_
  refine g12 (k := 15) (v := .ref (zad G 13 15)) hC hW (by decide) mF_X5_53 rfl dX5_unmount_1 ?_
  refine lv_iload_n hx hb dX5_unmount_4 rfl (lv_at hl 1 rfl) ?_
  refine am (i := mm) (n := 2) hC hW (by decide) rfl rfl (rfl) (by omega) dX5_unmount_5 ?_
  refine lv_if_ge (tgt := 10) hx hb dX5_unmount_6 (by decide) (fun h6 => ?_) (fun h6 => ?_)
  · exact absurd h6 (by rw [hd]; decide)
  · exact hE hW dX5_unmount_9

set_option maxHeartbeats 4000000 in
set_option maxRecDepth 100000 in
theorem c_X5_unmount_s (l : Launch) (G : GG) (C : CS) (M : MS) {mm : Nat} (hm : mm < 2) {d t q : Nat} (hd : d < 3) (hdr : mA M 15 mm = nI d) (hs : mA M 18 mm ≠ 0 → t < 12 ∧ mA M 16 mm = nI t ∧ mA M 19 mm = nI q) : Ct l G yX5_unmount cX5_unmount 2 none 0 0 [.ref (zad G 12 0), .int (nI mm)] C M none C (munm M mm d t q) := by
  refine Ct_v (by decide) (Nat.le_of_ble_eq_true rfl) (fun {p e s m args below meth c A Q ls} hC hW hl hE => ?_)
  have hx := hC.1
  have hb := hC.2.1
  have hl : lv_has ls 2 [(0, .ref (zad G 12 0)), (1, .int (nI mm))] := hl
  refine lv_aload_n hx hb dX5_unmount_0 rfl (lv_at hl 0 rfl) ?_
  refine g12 (k := 15) (v := .ref (zad G 13 15)) hC hW (by decide) mF_X5_53 rfl dX5_unmount_1 ?_
  refine lv_iload_n hx hb dX5_unmount_4 rfl (lv_at hl 1 rfl) ?_
  refine am (i := mm) (n := 2) hC hW (by decide) rfl rfl (rfl) (by omega) dX5_unmount_5 ?_
  refine z_top (y := nI d) (hdr) ?_
  refine zf_ge (i := d) (tgt := 10) hx hb rfl (by omega) dX5_unmount_6 (by decide) ?_
  refine lv_aload_n hx hb dX5_unmount_10 rfl (lv_at hl 0 rfl) ?_
  refine g12 (k := 18) (v := .ref (zad G 13 18)) hC hW (by decide) mF_X5_62 rfl dX5_unmount_11 ?_
  refine lv_iload_n hx hb dX5_unmount_14 rfl (lv_at hl 1 rfl) ?_
  refine amz (i := mm) (n := 2) hC hW (by decide) rfl rfl (rfl) (by omega) dX5_unmount_15 ?_
  refine lv_if_eq (tgt := 83) hx hb dX5_unmount_16 (by decide) (fun h16 => ?_) (fun h16 => ?_)
  · refine lv_aload_n hx hb dX5_unmount_83 rfl (lv_at hl 0 rfl) ?_
    refine lv_aload_n hx hb dX5_unmount_84 rfl (lv_at hl 0 rfl) ?_
    refine g12 (k := 26) (v := .int (mF M 26)) hC hW (by decide) mF_X5_96 rfl dX5_unmount_85 ?_
    refine lv_aload_n hx hb dX5_unmount_88 rfl (lv_at hl 0 rfl) ?_
    refine g12 (k := 17) (v := .ref (zad G 13 17)) hC hW (by decide) mF_X5_59 rfl dX5_unmount_89 ?_
    refine lv_iload_n hx hb dX5_unmount_92 rfl (lv_at hl 1 rfl) ?_
    refine am (i := mm) (n := 2) hC hW (by decide) rfl rfl (rfl) (by omega) dX5_unmount_93 ?_
    refine lv_iadd hx hb dX5_unmount_94 ?_
    refine p12 (k := 26) (v := (mF M 26) + (mA M 17 mm)) hC hW (by decide) mF_X5_96 dX5_unmount_95 (fun _ eS H locs hW => ?_)
    subst eS
    refine lv_aload_n hx hb dX5_unmount_98 rfl (lv_at hl 0 rfl) ?_
    refine g12 (k := 10) (v := .ref (zad G 13 10)) hC hW (by decide) mF_X5_38 rfl dX5_unmount_99 ?_
    refine lv_aload_n hx hb dX5_unmount_102 rfl (lv_at hl 0 rfl) ?_
    refine g12 (k := 15) (v := .ref (zad G 13 15)) hC hW (by decide) mF_X5_53 rfl dX5_unmount_103 ?_
    refine lv_iload_n hx hb dX5_unmount_106 rfl (lv_at hl 1 rfl) ?_
    refine am (i := mm) (n := 2) hC hW (by decide) rfl rfl (rfl) (by omega) dX5_unmount_107 ?_
    refine z_top (y := nI d) (hdr) ?_
    refine lv_iconst (v := 0) hx hb dX5_unmount_108 (by decide) ?_
    refine smz (i := d) (n := 3) (v := 0) hC hW (by decide) rfl rfl (rfl) (by omega) (by decide) dX5_unmount_109 (fun _ eS H locs hW => ?_)
    subst eS
    have hD2 : munm M mm d t q = smA (smF M 26 ((mF M 26) + (mA M 17 mm))) 10 d 0 := by unfold munm mun2; rw [if_pos h16]
    rw [hD2] at hE
    exact hE hW dX5_unmount_110
  · have ht12 := (hs h16).1
    refine lv_aload_n hx hb dX5_unmount_19 rfl (lv_at hl 0 rfl) ?_
    refine lv_aload_n hx hb dX5_unmount_20 rfl (lv_at hl 0 rfl) ?_
    refine g12 (k := 26) (v := .int (mF M 26)) hC hW (by decide) mF_X5_96 rfl dX5_unmount_21 ?_
    refine lv_aload_n hx hb dX5_unmount_24 rfl (lv_at hl 0 rfl) ?_
    refine g12 (k := 11) (v := .ref (zad G 13 11)) hC hW (by decide) mF_X5_41 rfl dX5_unmount_25 ?_
    refine lv_aload_n hx hb dX5_unmount_28 rfl (lv_at hl 0 rfl) ?_
    refine g12 (k := 15) (v := .ref (zad G 13 15)) hC hW (by decide) mF_X5_53 rfl dX5_unmount_29 ?_
    refine lv_iload_n hx hb dX5_unmount_32 rfl (lv_at hl 1 rfl) ?_
    refine am (i := mm) (n := 2) hC hW (by decide) rfl rfl (rfl) (by omega) dX5_unmount_33 ?_
    refine z_top (y := nI d) (hdr) ?_
    refine amz (i := d) (n := 3) hC hW (by decide) rfl rfl (rfl) (by omega) dX5_unmount_34 ?_
    refine lv_if_eq (tgt := 42) hx hb dX5_unmount_35 (by decide) (fun h35 => ?_) (fun h35 => ?_)
    · refine lv_iconst (v := 1) hx hb dX5_unmount_42 (by decide) ?_
      refine lv_aload_n hx hb dX5_unmount_43 rfl (lv_at hl 0 rfl) ?_
      refine g12 (k := 19) (v := .ref (zad G 13 19)) hC hW (by decide) mF_X5_65 rfl dX5_unmount_44 ?_
      refine lv_iload_n hx hb dX5_unmount_47 rfl (lv_at hl 1 rfl) ?_
      refine am (i := mm) (n := 2) hC hW (by decide) rfl rfl (rfl) (by omega) dX5_unmount_48 ?_
      refine z_top (y := nI q) ((hs h16).2.2) ?_
      refine zi_mul (i := 1) (j := q) hx hb rfl rfl dX5_unmount_49 ?_
      refine lv_iadd hx hb dX5_unmount_50 ?_
      refine p12 (k := 26) (v := (mF M 26) + (nI (1 * q))) hC hW (by decide) mF_X5_96 dX5_unmount_51 (fun _ eS H locs hW => ?_)
      subst eS
      refine lv_aload_n hx hb dX5_unmount_54 rfl (lv_at hl 0 rfl) ?_
      refine g12 (k := 4) (v := .ref (zad G 13 4)) hC hW (by decide) mF_X5_19 rfl dX5_unmount_55 ?_
      refine lv_aload_n hx hb dX5_unmount_58 rfl (lv_at hl 0 rfl) ?_
      refine g12 (k := 16) (v := .ref (zad G 13 16)) hC hW (by decide) mF_X5_56 rfl dX5_unmount_59 ?_
      refine lv_iload_n hx hb dX5_unmount_62 rfl (lv_at hl 1 rfl) ?_
      refine am (i := mm) (n := 2) hC hW (by decide) rfl rfl (rfl) (by omega) dX5_unmount_63 ?_
      refine z_top (y := nI t) ((hs h16).2.1) ?_
      refine lv_aload_n hx hb dX5_unmount_64 rfl (lv_at hl 0 rfl) ?_
      refine g12 (k := 4) (v := .ref (zad G 13 4)) hC hW (by decide) mF_X5_19 rfl dX5_unmount_65 ?_
      refine lv_aload_n hx hb dX5_unmount_68 rfl (lv_at hl 0 rfl) ?_
      refine g12 (k := 16) (v := .ref (zad G 13 16)) hC hW (by decide) mF_X5_56 rfl dX5_unmount_69 ?_
      refine lv_iload_n hx hb dX5_unmount_72 rfl (lv_at hl 1 rfl) ?_
      refine am (i := mm) (n := 2) hC hW (by decide) rfl rfl (rfl) (by omega) dX5_unmount_73 ?_
      refine z_top (y := nI t) ((hs h16).2.1) ?_
      refine am (i := t) (n := 12) hC hW (by decide) rfl rfl (rfl) (by omega) dX5_unmount_74 ?_
      refine lv_aload_n hx hb dX5_unmount_75 rfl (lv_at hl 0 rfl) ?_
      refine g12 (k := 19) (v := .ref (zad G 13 19)) hC hW (by decide) mF_X5_65 rfl dX5_unmount_76 ?_
      refine lv_iload_n hx hb dX5_unmount_79 rfl (lv_at hl 1 rfl) ?_
      refine am (i := mm) (n := 2) hC hW (by decide) rfl rfl (rfl) (by omega) dX5_unmount_80 ?_
      refine z_top (y := nI q) ((hs h16).2.2) ?_
      refine lv_iadd hx hb dX5_unmount_81 ?_
      refine sm (i := t) (n := 12) (v := (mA M 4 t) + (nI q)) hC hW (by decide) rfl rfl (rfl) (by omega) dX5_unmount_82 (fun _ eS H locs hW => ?_)
      subst eS
      refine lv_aload_n hx hb dX5_unmount_83 rfl (lv_at hl 0 rfl) ?_
      refine lv_aload_n hx hb dX5_unmount_84 rfl (lv_at hl 0 rfl) ?_
      refine g12 (k := 26) (v := .int ((mF M 26) + (nI (1 * q)))) hC hW (by decide) mF_X5_96 rfl dX5_unmount_85 ?_
      refine lv_aload_n hx hb dX5_unmount_88 rfl (lv_at hl 0 rfl) ?_
      refine g12 (k := 17) (v := .ref (zad G 13 17)) hC hW (by decide) mF_X5_59 rfl dX5_unmount_89 ?_
      refine lv_iload_n hx hb dX5_unmount_92 rfl (lv_at hl 1 rfl) ?_
      refine am (i := mm) (n := 2) hC hW (by decide) rfl rfl (rfl) (by omega) dX5_unmount_93 ?_
      refine lv_iadd hx hb dX5_unmount_94 ?_
      refine p12 (k := 26) (v := ((mF M 26) + (nI (1 * q))) + (mA M 17 mm)) hC hW (by decide) mF_X5_96 dX5_unmount_95 (fun _ eS H locs hW => ?_)
      subst eS
      refine lv_aload_n hx hb dX5_unmount_98 rfl (lv_at hl 0 rfl) ?_
      refine g12 (k := 10) (v := .ref (zad G 13 10)) hC hW (by decide) mF_X5_38 rfl dX5_unmount_99 ?_
      refine lv_aload_n hx hb dX5_unmount_102 rfl (lv_at hl 0 rfl) ?_
      refine g12 (k := 15) (v := .ref (zad G 13 15)) hC hW (by decide) mF_X5_53 rfl dX5_unmount_103 ?_
      refine lv_iload_n hx hb dX5_unmount_106 rfl (lv_at hl 1 rfl) ?_
      refine am (i := mm) (n := 2) hC hW (by decide) rfl rfl (rfl) (by omega) dX5_unmount_107 ?_
      refine z_top (y := nI d) (hdr) ?_
      refine lv_iconst (v := 0) hx hb dX5_unmount_108 (by decide) ?_
      refine smz (i := d) (n := 3) (v := 0) hC hW (by decide) rfl rfl (rfl) (by omega) (by decide) dX5_unmount_109 (fun _ eS H locs hW => ?_)
      subst eS
      have hD2 : munm M mm d t q = smA (smF (smA (smF M 26 ((mF M 26) + (nI (1 * q)))) 4 t ((mA M 4 t) + (nI q))) 26 (((mF M 26) + (nI (1 * q))) + (mA M 17 mm))) 10 d 0 := by unfold munm mun2; rw [if_neg h16]; unfold mun1; rw [if_pos h35]; rfl
      rw [hD2] at hE
      exact hE hW dX5_unmount_110
    · refine lv_iconst (v := 3) hx hb dX5_unmount_38 (by decide) ?_
      refine lv_goto (tgt := 43) hx hb dX5_unmount_39 (by decide) ?_
      refine lv_aload_n hx hb dX5_unmount_43 rfl (lv_at hl 0 rfl) ?_
      refine g12 (k := 19) (v := .ref (zad G 13 19)) hC hW (by decide) mF_X5_65 rfl dX5_unmount_44 ?_
      refine lv_iload_n hx hb dX5_unmount_47 rfl (lv_at hl 1 rfl) ?_
      refine am (i := mm) (n := 2) hC hW (by decide) rfl rfl (rfl) (by omega) dX5_unmount_48 ?_
      refine z_top (y := nI q) ((hs h16).2.2) ?_
      refine zi_mul (i := 3) (j := q) hx hb rfl rfl dX5_unmount_49 ?_
      refine lv_iadd hx hb dX5_unmount_50 ?_
      refine p12 (k := 26) (v := (mF M 26) + (nI (3 * q))) hC hW (by decide) mF_X5_96 dX5_unmount_51 (fun _ eS H locs hW => ?_)
      subst eS
      refine lv_aload_n hx hb dX5_unmount_54 rfl (lv_at hl 0 rfl) ?_
      refine g12 (k := 4) (v := .ref (zad G 13 4)) hC hW (by decide) mF_X5_19 rfl dX5_unmount_55 ?_
      refine lv_aload_n hx hb dX5_unmount_58 rfl (lv_at hl 0 rfl) ?_
      refine g12 (k := 16) (v := .ref (zad G 13 16)) hC hW (by decide) mF_X5_56 rfl dX5_unmount_59 ?_
      refine lv_iload_n hx hb dX5_unmount_62 rfl (lv_at hl 1 rfl) ?_
      refine am (i := mm) (n := 2) hC hW (by decide) rfl rfl (rfl) (by omega) dX5_unmount_63 ?_
      refine z_top (y := nI t) ((hs h16).2.1) ?_
      refine lv_aload_n hx hb dX5_unmount_64 rfl (lv_at hl 0 rfl) ?_
      refine g12 (k := 4) (v := .ref (zad G 13 4)) hC hW (by decide) mF_X5_19 rfl dX5_unmount_65 ?_
      refine lv_aload_n hx hb dX5_unmount_68 rfl (lv_at hl 0 rfl) ?_
      refine g12 (k := 16) (v := .ref (zad G 13 16)) hC hW (by decide) mF_X5_56 rfl dX5_unmount_69 ?_
      refine lv_iload_n hx hb dX5_unmount_72 rfl (lv_at hl 1 rfl) ?_
      refine am (i := mm) (n := 2) hC hW (by decide) rfl rfl (rfl) (by omega) dX5_unmount_73 ?_
      refine z_top (y := nI t) ((hs h16).2.1) ?_
      refine am (i := t) (n := 12) hC hW (by decide) rfl rfl (rfl) (by omega) dX5_unmount_74 ?_
      refine lv_aload_n hx hb dX5_unmount_75 rfl (lv_at hl 0 rfl) ?_
      refine g12 (k := 19) (v := .ref (zad G 13 19)) hC hW (by decide) mF_X5_65 rfl dX5_unmount_76 ?_
      refine lv_iload_n hx hb dX5_unmount_79 rfl (lv_at hl 1 rfl) ?_
      refine am (i := mm) (n := 2) hC hW (by decide) rfl rfl (rfl) (by omega) dX5_unmount_80 ?_
      refine z_top (y := nI q) ((hs h16).2.2) ?_
      refine lv_iadd hx hb dX5_unmount_81 ?_
      refine sm (i := t) (n := 12) (v := (mA M 4 t) + (nI q)) hC hW (by decide) rfl rfl (rfl) (by omega) dX5_unmount_82 (fun _ eS H locs hW => ?_)
      subst eS
      refine lv_aload_n hx hb dX5_unmount_83 rfl (lv_at hl 0 rfl) ?_
      refine lv_aload_n hx hb dX5_unmount_84 rfl (lv_at hl 0 rfl) ?_
      refine g12 (k := 26) (v := .int ((mF M 26) + (nI (3 * q)))) hC hW (by decide) mF_X5_96 rfl dX5_unmount_85 ?_
      refine lv_aload_n hx hb dX5_unmount_88 rfl (lv_at hl 0 rfl) ?_
      refine g12 (k := 17) (v := .ref (zad G 13 17)) hC hW (by decide) mF_X5_59 rfl dX5_unmount_89 ?_
      refine lv_iload_n hx hb dX5_unmount_92 rfl (lv_at hl 1 rfl) ?_
      refine am (i := mm) (n := 2) hC hW (by decide) rfl rfl (rfl) (by omega) dX5_unmount_93 ?_
      refine lv_iadd hx hb dX5_unmount_94 ?_
      refine p12 (k := 26) (v := ((mF M 26) + (nI (3 * q))) + (mA M 17 mm)) hC hW (by decide) mF_X5_96 dX5_unmount_95 (fun _ eS H locs hW => ?_)
      subst eS
      refine lv_aload_n hx hb dX5_unmount_98 rfl (lv_at hl 0 rfl) ?_
      refine g12 (k := 10) (v := .ref (zad G 13 10)) hC hW (by decide) mF_X5_38 rfl dX5_unmount_99 ?_
      refine lv_aload_n hx hb dX5_unmount_102 rfl (lv_at hl 0 rfl) ?_
      refine g12 (k := 15) (v := .ref (zad G 13 15)) hC hW (by decide) mF_X5_53 rfl dX5_unmount_103 ?_
      refine lv_iload_n hx hb dX5_unmount_106 rfl (lv_at hl 1 rfl) ?_
      refine am (i := mm) (n := 2) hC hW (by decide) rfl rfl (rfl) (by omega) dX5_unmount_107 ?_
      refine z_top (y := nI d) (hdr) ?_
      refine lv_iconst (v := 0) hx hb dX5_unmount_108 (by decide) ?_
      refine smz (i := d) (n := 3) (v := 0) hC hW (by decide) rfl rfl (rfl) (by omega) (by decide) dX5_unmount_109 (fun _ eS H locs hW => ?_)
      subst eS
      have hD2 : munm M mm d t q = smA (smF (smA (smF M 26 ((mF M 26) + (nI (3 * q)))) 4 t ((mA M 4 t) + (nI q))) 26 (((mF M 26) + (nI (3 * q))) + (mA M 17 mm))) 10 d 0 := by unfold munm mun2; rw [if_neg h16]; unfold mun1; rw [if_neg h35]; rfl
      rw [hD2] at hE
      exact hE hW dX5_unmount_110

set_option maxHeartbeats 4000000 in
set_option maxRecDepth 100000 in
theorem c_X5_wind_f (l : Launch) (G : GG) (C : CS) (M : MS) {mm : Nat} (hm : mm < 2) (h0 : mF M 30 ≠ 0) (pp : Int32) : Ct l G yX5_wind cX5_wind 3 none 1 20 [.ref (zad G 12 0), .int (nI mm), .int pp] C M none C M := by
  refine Ct_v (by decide) (Nat.le_of_ble_eq_true rfl) (fun {p e s m args below meth c A Q ls} hC hW hl hE => ?_)
  have hx := hC.1
  have hb := hC.2.1
  have hl : lv_has ls 3 [(0, .ref (zad G 12 0)), (1, .int (nI mm)), (2, .int pp)] := hl
  refine lv_aload_n hx hb dX5_wind_0 rfl (lv_at hl 0 rfl) ?_
  refine g12 (k := 30) (v := .int (mF M 30)) hC hW (by decide) mF_X5_82 rfl dX5_wind_1 ?_
  refine lv_if_ne (tgt := 55) hx hb dX5_wind_4 (by decide) (fun h4 => ?_) (fun h4 => ?_)
  · exact hE hW dX5_wind_55
  · exact absurd h4 h0

set_option maxHeartbeats 4000000 in
set_option maxRecDepth 100000 in
theorem c_X5_wind_0 (l : Launch) (G : GG) (C : CS) (M : MS) {mm : Nat} (hm : mm < 2) (h0 : mF M 30 = 0) {q0 pp : Nat} (hq0 : mA M 19 mm = nI q0) (hqp : q0 ≤ pp) (hp : pp < 2 ^ 30) : Ct l G yX5_wind cX5_wind 3 none 1 20 [.ref (zad G 12 0), .int (nI mm), .int (nI pp)] C M none C (mwL mm (pp - q0) q0 M) := by
  refine Ct_v (by decide) (Nat.le_of_ble_eq_true rfl) (fun {p e s m args below meth c A Q ls} hC hW hl hE => ?_)
  have hx := hC.1
  have hb := hC.2.1
  have hl : lv_has ls 3 [(0, .ref (zad G 12 0)), (1, .int (nI mm)), (2, .int (nI pp))] := hl
  have lp : ∀ (k : Nat) (q : Nat) (Mj : MS), q + k = pp → mF Mj 30 = 0 → mA Mj 19 mm = nI q → mwL mm k q Mj = mwL mm (pp - q0) q0 M → ∀ (H : Heap) (locs : List Loc) (ls : Array Slot), Wd G s A s.heap H locs C Mj → lv_has ls 3 [(0, .ref (zad G 12 0)), (1, .int (nI mm)), (2, .int (nI pp))] → W p l e { frames := 1, cells := 0, slots := 0, locals := 20 } s m args below meth c H locs 0 0 Q (F0 m 0 ls []) := by
    intro k
    induction k with
    | zero =>
      intro q Mj hk hw hq hD H locs ls hW hl
      refine lv_aload_n hx hb dX5_wind_0 rfl (lv_at hl 0 rfl) ?_
      refine g12 (k := 30) (v := .int (mF Mj 30)) hC hW (by decide) mF_X5_82 rfl dX5_wind_1 ?_
      refine lv_if_ne (tgt := 55) hx hb dX5_wind_4 (by decide) (fun h4 => ?_) (fun h4 => ?_)
      · exact absurd hw h4
      · refine lv_aload_n hx hb dX5_wind_7 rfl (lv_at hl 0 rfl) ?_
        refine g12 (k := 19) (v := .ref (zad G 13 19)) hC hW (by decide) mF_X5_65 rfl dX5_wind_8 ?_
        refine lv_iload_n hx hb dX5_wind_11 rfl (lv_at hl 1 rfl) ?_
        refine am (i := mm) (n := 2) hC hW (by decide) rfl rfl (rfl) (by omega) dX5_wind_12 ?_
        refine z_top (y := nI q) (hq) ?_
        refine lv_iload_n hx hb dX5_wind_13 rfl (lv_at hl 2 rfl) ?_
        refine zc_eq (i := q) (j := pp) (tgt := 55) hx hb rfl rfl (by omega) (by omega) dX5_wind_14 (by decide) (fun h14 => ?_) (fun h14 => ?_)
        · have hD2 : mwL mm (pp - q0) q0 M = Mj := by rw [← hD]; rfl
          rw [hD2] at hE
          exact hE hW dX5_wind_55
        · exact absurd (show q = pp by omega) h14
    | succ k ih =>
      intro q Mj hk hw hq hD H locs ls hW hl
      refine lv_aload_n hx hb dX5_wind_0 rfl (lv_at hl 0 rfl) ?_
      refine g12 (k := 30) (v := .int (mF Mj 30)) hC hW (by decide) mF_X5_82 rfl dX5_wind_1 ?_
      refine lv_if_ne (tgt := 55) hx hb dX5_wind_4 (by decide) (fun h4 => ?_) (fun h4 => ?_)
      · exact absurd hw h4
      · refine lv_aload_n hx hb dX5_wind_7 rfl (lv_at hl 0 rfl) ?_
        refine g12 (k := 19) (v := .ref (zad G 13 19)) hC hW (by decide) mF_X5_65 rfl dX5_wind_8 ?_
        refine lv_iload_n hx hb dX5_wind_11 rfl (lv_at hl 1 rfl) ?_
        refine am (i := mm) (n := 2) hC hW (by decide) rfl rfl (rfl) (by omega) dX5_wind_12 ?_
        refine z_top (y := nI q) (hq) ?_
        refine lv_iload_n hx hb dX5_wind_13 rfl (lv_at hl 2 rfl) ?_
        refine zc_eq (i := q) (j := pp) (tgt := 55) hx hb rfl rfl (by omega) (by omega) dX5_wind_14 (by decide) (fun h14 => ?_) (fun h14 => ?_)
        · exact absurd h14 (by omega)
        · refine lv_aload_n hx hb dX5_wind_17 rfl (lv_at hl 0 rfl) ?_
          refine z_callV (As := []) (rest := []) (st1 := [.int (bI (mF Mj 29 ≠ 0))]) hC hW LL_12 rfl rfl rfl (c_X5_work_0 l G C Mj hw) mw_X5_work mv_X5_work mM_X5_92 ⟨Nat.le_of_ble_eq_true rfl, Nat.le_of_ble_eq_true rfl⟩ rfl rfl hl.1 (lv_room (Nat.le_of_ble_eq_true rfl)) dX5_wind_18 rfl (fun H locs hW => ?_) ⟨Nat.zero_le _, Nat.zero_le _⟩
          obtain ⟨M1, eM1⟩ : ∃ z_, z_ = mwM Mj := ⟨_, rfl⟩
          rw [← eM1] at hW
          have hA1 : mA M1 = mA Mj := by rw [eM1]; exact mwM_A Mj
          refine zb_eq (tgt := 55) hx hb (mF Mj 29 ≠ 0) rfl dX5_wind_21 (by decide) (fun h21 => ?_) (fun h21 => ?_)
          · have hD2 : mwL mm (pp - q0) q0 M = M1 := by rw [← hD, mwL, if_neg h21, eM1]
            rw [hD2] at hE
            exact hE hW dX5_wind_55
          · refine lv_aload_n hx hb dX5_wind_24 rfl (lv_at hl 0 rfl) ?_
            refine g12 (k := 19) (v := .ref (zad G 13 19)) hC hW (by decide) mF_X5_65 rfl dX5_wind_25 ?_
            refine lv_iload_n hx hb dX5_wind_28 rfl (lv_at hl 1 rfl) ?_
            refine lv_aload_n hx hb dX5_wind_29 rfl (lv_at hl 0 rfl) ?_
            refine g12 (k := 19) (v := .ref (zad G 13 19)) hC hW (by decide) mF_X5_65 rfl dX5_wind_30 ?_
            refine lv_iload_n hx hb dX5_wind_33 rfl (lv_at hl 1 rfl) ?_
            refine am (i := mm) (n := 2) hC hW (by decide) rfl rfl (rfl) (by omega) dX5_wind_34 ?_
            refine z_top (y := nI q) (by rw [hA1]; exact hq) ?_
            refine lv_aload_n hx hb dX5_wind_35 rfl (lv_at hl 0 rfl) ?_
            refine g12 (k := 19) (v := .ref (zad G 13 19)) hC hW (by decide) mF_X5_65 rfl dX5_wind_36 ?_
            refine lv_iload_n hx hb dX5_wind_39 rfl (lv_at hl 1 rfl) ?_
            refine am (i := mm) (n := 2) hC hW (by decide) rfl rfl (rfl) (by omega) dX5_wind_40 ?_
            refine z_top (y := nI q) (by rw [hA1]; exact hq) ?_
            refine lv_iload_n hx hb dX5_wind_41 rfl (lv_at hl 2 rfl) ?_
            refine zc_ge (i := q) (j := pp) (tgt := 49) hx hb rfl rfl (by omega) (by omega) dX5_wind_42 (by decide) (fun h42 => ?_) (fun h42 => ?_)
            · exact absurd h42 (by omega)
            · refine lv_iconst (v := 1) hx hb dX5_wind_45 (by decide) ?_
              refine lv_goto (tgt := 50) hx hb dX5_wind_46 (by decide) ?_
              refine zi_add (i := q) (j := 1) hx hb rfl rfl dX5_wind_50 ?_
              refine sm (i := mm) (n := 2) (v := nI (q + 1)) hC hW (by decide) rfl rfl (rfl) (by omega) dX5_wind_51 (fun _ eS H locs hW => ?_)
              subst eS
              refine lv_goto (tgt := 0) hx hb dX5_wind_52 (by decide) ?_
              exact ih (q + 1) (smA M1 19 mm (nI (q + 1))) (by omega) (by rw [mF_smA, eM1]; exact mwM_w hw h21) (by rw [mA_smA, if_pos ⟨rfl, rfl⟩]) (by rw [← hD, mwL, if_pos h21, eM1]) _ _ _ hW (lv_sub hl [0, 1, 2] rfl)
  exact lp (pp - q0) q0 M (by omega) h0 hq0 rfl _ _ _ hW (lv_sub hl [0, 1, 2] rfl)

set_option maxHeartbeats 4000000 in
set_option maxRecDepth 100000 in
theorem c_X5_begin (l : Launch) (G : GG) (C : CS) (M : MS)  : Ct l G yX5_begin cX5_begin 1 none 0 0 [.ref (zad G 12 0)] C M none C (mbeg M) := by
  refine Ct_v (by decide) (Nat.le_of_ble_eq_true rfl) (fun {p e s m args below meth c A Q ls} hC hW hl hE => ?_)
  have hx := hC.1
  have hb := hC.2.1
  have hl : lv_has ls 1 [(0, .ref (zad G 12 0))] := hl
  refine lv_aload_n hx hb dX5_begin_0 rfl (lv_at hl 0 rfl) ?_
  refine lv_iconst (v := 0) hx hb dX5_begin_1 (by decide) ?_
  refine p12 (k := 30) (v := 0) hC hW (by decide) mF_X5_82 dX5_begin_2 (fun _ eS H locs hW => ?_)
  subst eS
  refine lv_aload_n hx hb dX5_begin_5 rfl (lv_at hl 0 rfl) ?_
  refine lv_dup hx hb dX5_begin_6 rfl ?_
  refine g12 (k := 27) (v := .int (mF M 27)) hC hW (by decide) mF_X5_107 rfl dX5_begin_7 ?_
  refine lv_iconst (v := 1) hx hb dX5_begin_10 (by decide) ?_
  refine lv_iadd hx hb dX5_begin_11 ?_
  refine p12 (k := 27) (v := (mF M 27) + 1) hC hW (by decide) mF_X5_107 dX5_begin_12 (fun _ eS H locs hW => ?_)
  subst eS
  have qM : smF (smF M 30 0) 27 ((mF M 27) + 1) = mbeg M := by rfl
  rw [qM] at hW
  exact hE hW dX5_begin_15

set_option maxHeartbeats 4000000 in
set_option maxRecDepth 100000 in
theorem c_X5_ended (l : Launch) (G : GG) (C : CS) (M : MS) (x : Int32) : Ct l G yX5_ended cX5_ended 2 (some .int) 0 0 [.ref (zad G 12 0), .int x] C M (some (.int (menR M x))) C (menE M) := by
  refine Ct_i (by decide) (Nat.le_of_ble_eq_true rfl) (fun {p e s m args below meth c A Q ls} hC hW hl hE => ?_)
  have hx := hC.1
  have hb := hC.2.1
  have hl : lv_has ls 2 [(0, .ref (zad G 12 0)), (1, .int x)] := hl
  refine lv_aload_n hx hb dX5_ended_0 rfl (lv_at hl 0 rfl) ?_
  refine lv_aload_n hx hb dX5_ended_1 rfl (lv_at hl 0 rfl) ?_
  refine g12 (k := 28) (v := .int (mF M 28)) hC hW (by decide) mF_X5_110 rfl dX5_ended_2 ?_
  refine lv_aload_n hx hb dX5_ended_5 rfl (lv_at hl 0 rfl) ?_
  refine g12 (k := 30) (v := .int (mF M 30)) hC hW (by decide) mF_X5_82 rfl dX5_ended_6 ?_
  refine lv_if_eq (tgt := 16) hx hb dX5_ended_9 (by decide) (fun h9 => ?_) (fun h9 => ?_)
  · refine lv_iconst (v := 0) hx hb dX5_ended_16 (by decide) ?_
    refine lv_iadd hx hb dX5_ended_17 ?_
    refine p12 (k := 28) (v := (mF M 28) + 0) hC hW (by decide) mF_X5_110 dX5_ended_18 (fun _ eS H locs hW => ?_)
    subst eS
    refine lv_aload_n hx hb dX5_ended_21 rfl (lv_at hl 0 rfl) ?_
    refine g12 (k := 30) (v := .int (mF M 30)) hC hW (by decide) mF_X5_82 rfl dX5_ended_22 ?_
    refine lv_if_eq (tgt := 35) hx hb dX5_ended_25 (by decide) (fun h25 => ?_) (fun h25 => ?_)
    · refine lv_iload_n hx hb dX5_ended_35 rfl (lv_at hl 1 rfl) ?_
      have qM : smF M 28 ((mF M 28) + 0) = menE M := by unfold menE; rw [if_pos h9]
      rw [qM] at hW
      have qr : (x : Int32) = menR M x := by unfold menR; rw [if_pos h9]
      exact hE hW qr dX5_ended_36
    · exact absurd h9 h25
  · refine lv_iconst (v := 1) hx hb dX5_ended_12 (by decide) ?_
    refine lv_goto (tgt := 17) hx hb dX5_ended_13 (by decide) ?_
    refine lv_iadd hx hb dX5_ended_17 ?_
    refine p12 (k := 28) (v := (mF M 28) + 1) hC hW (by decide) mF_X5_110 dX5_ended_18 (fun _ eS H locs hW => ?_)
    subst eS
    refine lv_aload_n hx hb dX5_ended_21 rfl (lv_at hl 0 rfl) ?_
    refine g12 (k := 30) (v := .int (mF M 30)) hC hW (by decide) mF_X5_82 rfl dX5_ended_22 ?_
    refine lv_if_eq (tgt := 35) hx hb dX5_ended_25 (by decide) (fun h25 => ?_) (fun h25 => ?_)
    · exact absurd h25 h9
    · refine lv_aload_n hx hb dX5_ended_28 rfl (lv_at hl 0 rfl) ?_
      refine g12 (k := 30) (v := .int (mF M 30)) hC hW (by decide) mF_X5_82 rfl dX5_ended_29 ?_
      refine lv_goto (tgt := 36) hx hb dX5_ended_32 (by decide) ?_
      have qM : smF M 28 ((mF M 28) + 1) = menE M := by unfold menE; rw [if_neg h9]
      rw [qM] at hW
      have qr : (mF M 30 : Int32) = menR M x := by unfold menR; rw [if_neg h9]
      exact hE hW qr dX5_ended_36

set_option maxHeartbeats 4000000 in
set_option maxRecDepth 100000 in
theorem c_X5_forget (l : Launch) (G : GG) (C : CS) (M : MS) {t : Nat} (ht : t < 12) : Ct l G yX5_forget cX5_forget 4 (some .int) 0 0 [.ref (zad G 12 0), .int (nI t)] C M (some (.int (nI (fgL t 1000 0 0 M).1))) C ((fgL t 1000 0 0 M).2) := by
  refine Ct_i (by decide) (Nat.le_of_ble_eq_true rfl) (fun {p e s m args below meth c A Q ls} hC hW hl hE => ?_)
  have hx := hC.1
  have hb := hC.2.1
  have hl : lv_has ls 4 [(0, .ref (zad G 12 0)), (1, .int (nI t))] := hl
  refine lv_iconst (v := 0) hx hb dX5_forget_0 (by decide) ?_
  refine lv_istore_n (lv' := [(2, .int 0), (0, .ref (zad G 12 0)), (1, .int (nI t))]) hx hb dX5_forget_1 rfl hl (by decide) rfl (fun ls hl => ?_)
  refine lv_iconst (v := 0) hx hb dX5_forget_2 (by decide) ?_
  refine lv_istore_n (lv' := [(3, .int 0), (2, .int 0), (0, .ref (zad G 12 0)), (1, .int (nI t))]) hx hb dX5_forget_3 rfl hl (by decide) rfl (fun ls hl => ?_)
  have lp : ∀ (k : Nat) (j : Nat) (u : Nat) (Mj : MS), j + k = 1000 → fgL t k j u Mj = fgL t 1000 0 0 M → ∀ (H : Heap) (locs : List Loc) (ls : Array Slot), Wd G s A s.heap H locs C Mj → lv_has ls 4 [(0, .ref (zad G 12 0)), (1, .int (nI t)), (2, .int (nI u)), (3, .int (nI j))] → W p l e { frames := 0, cells := 0, slots := 0, locals := 0 } s m args below meth c H locs 0 0 Q (F0 m 4 ls []) := by
    intro k
    induction k with
    | zero =>
      intro j u Mj hk hD H locs ls hW hl
      refine lv_iload_n hx hb dX5_forget_4 rfl (lv_at hl 3 rfl) ?_
      refine lv_sipush (v := 1000) hx hb dX5_forget_5 (by decide) ?_
      refine zc_ge (i := j) (j := 1000) (tgt := 53) hx hb rfl rfl (by omega) (by omega) dX5_forget_8 (by decide) (fun h8 => ?_) (fun h8 => ?_)
      · refine lv_iload_n hx hb dX5_forget_53 rfl (lv_at hl 2 rfl) ?_
        have hD2 : fgL t 1000 0 0 M = (u, Mj) := hD.symm
        rw [hD2] at hE
        exact hE hW rfl dX5_forget_54
      · exact absurd h8 (by omega)
    | succ k ih =>
      intro j u Mj hk hD H locs ls hW hl
      refine lv_iload_n hx hb dX5_forget_4 rfl (lv_at hl 3 rfl) ?_
      refine lv_sipush (v := 1000) hx hb dX5_forget_5 (by decide) ?_
      refine zc_ge (i := j) (j := 1000) (tgt := 53) hx hb rfl rfl (by omega) (by omega) dX5_forget_8 (by decide) (fun h8 => ?_) (fun h8 => ?_)
      · exact absurd h8 (by omega)
      · refine lv_aload_n hx hb dX5_forget_11 rfl (lv_at hl 0 rfl) ?_
        refine g12 (k := 9) (v := .ref (zad G 13 9)) hC hW (by decide) mF_X5_35 rfl dX5_forget_12 ?_
        refine lv_sipush (v := 1000) hx hb dX5_forget_15 (by decide) ?_
        refine lv_iload_n hx hb dX5_forget_18 rfl (lv_at hl 1 rfl) ?_
        refine zi_mul (i := 1000) (j := t) hx hb rfl rfl dX5_forget_19 ?_
        refine lv_iload_n hx hb dX5_forget_20 rfl (lv_at hl 3 rfl) ?_
        refine zi_add (i := 1000 * t) (j := j) hx hb rfl rfl dX5_forget_21 ?_
        refine am (i := 1000 * t + j) (n := 12000) hC hW (by decide) rfl rfl (rfl) (by omega) dX5_forget_22 ?_
        refine lv_if_le (tgt := 32) hx hb dX5_forget_23 (by decide) (fun h23 => ?_) (fun h23 => ?_)
        · refine lv_iload_n hx hb dX5_forget_32 rfl (lv_at hl 2 rfl) ?_
          refine lv_istore_n (lv' := [(2, .int (nI u)), (0, .ref (zad G 12 0)), (1, .int (nI t)), (3, .int (nI j))]) hx hb dX5_forget_33 rfl hl (by decide) rfl (fun ls hl => ?_)
          refine lv_aload_n hx hb dX5_forget_34 rfl (lv_at hl 1 rfl) ?_
          refine g12 (k := 9) (v := .ref (zad G 13 9)) hC hW (by decide) mF_X5_35 rfl dX5_forget_35 ?_
          refine lv_sipush (v := 1000) hx hb dX5_forget_38 (by decide) ?_
          refine lv_iload_n hx hb dX5_forget_41 rfl (lv_at hl 2 rfl) ?_
          refine zi_mul (i := 1000) (j := t) hx hb rfl rfl dX5_forget_42 ?_
          refine lv_iload_n hx hb dX5_forget_43 rfl (lv_at hl 3 rfl) ?_
          refine zi_add (i := 1000 * t) (j := j) hx hb rfl rfl dX5_forget_44 ?_
          refine lv_iconst (v := 0) hx hb dX5_forget_45 (by decide) ?_
          refine sm (i := 1000 * t + j) (n := 12000) (v := 0) hC hW (by decide) rfl rfl (rfl) (by omega) dX5_forget_46 (fun _ eS H locs hW => ?_)
          subst eS
          refine lv_iinc (k := 3) (v := nI (j + 1)) (lv' := [(3, .int (nI (j + 1))), (2, .int (nI u)), (0, .ref (zad G 12 0)), (1, .int (nI t))]) hx hb dX5_forget_47 hl rfl (nI_inc _) (by decide) rfl (fun ls hl => ?_)
          refine lv_goto (tgt := 4) hx hb dX5_forget_50 (by decide) ?_
          exact ih (j + 1) u (smA Mj 9 (1000 * t + j) 0) (by omega) (by rw [← hD, fgL, if_pos h23]) _ _ _ hW (lv_sub hl [2, 3, 1, 0] rfl)
        · refine lv_iload_n hx hb dX5_forget_26 rfl (lv_at hl 2 rfl) ?_
          refine lv_iconst (v := 1) hx hb dX5_forget_27 (by decide) ?_
          refine zi_add (i := u) (j := 1) hx hb rfl rfl dX5_forget_28 ?_
          refine lv_goto (tgt := 33) hx hb dX5_forget_29 (by decide) ?_
          refine lv_istore_n (lv' := [(2, .int (nI (u + 1))), (0, .ref (zad G 12 0)), (1, .int (nI t)), (3, .int (nI j))]) hx hb dX5_forget_33 rfl hl (by decide) rfl (fun ls hl => ?_)
          refine lv_aload_n hx hb dX5_forget_34 rfl (lv_at hl 1 rfl) ?_
          refine g12 (k := 9) (v := .ref (zad G 13 9)) hC hW (by decide) mF_X5_35 rfl dX5_forget_35 ?_
          refine lv_sipush (v := 1000) hx hb dX5_forget_38 (by decide) ?_
          refine lv_iload_n hx hb dX5_forget_41 rfl (lv_at hl 2 rfl) ?_
          refine zi_mul (i := 1000) (j := t) hx hb rfl rfl dX5_forget_42 ?_
          refine lv_iload_n hx hb dX5_forget_43 rfl (lv_at hl 3 rfl) ?_
          refine zi_add (i := 1000 * t) (j := j) hx hb rfl rfl dX5_forget_44 ?_
          refine lv_iconst (v := 0) hx hb dX5_forget_45 (by decide) ?_
          refine sm (i := 1000 * t + j) (n := 12000) (v := 0) hC hW (by decide) rfl rfl (rfl) (by omega) dX5_forget_46 (fun _ eS H locs hW => ?_)
          subst eS
          refine lv_iinc (k := 3) (v := nI (j + 1)) (lv' := [(3, .int (nI (j + 1))), (2, .int (nI (u + 1))), (0, .ref (zad G 12 0)), (1, .int (nI t))]) hx hb dX5_forget_47 hl rfl (nI_inc _) (by decide) rfl (fun ls hl => ?_)
          refine lv_goto (tgt := 4) hx hb dX5_forget_50 (by decide) ?_
          exact ih (j + 1) (u + 1) (smA Mj 9 (1000 * t + j) 0) (by omega) (by rw [← hD, fgL, if_neg h23]) _ _ _ hW (lv_sub hl [2, 3, 1, 0] rfl)
  exact lp 1000 0 0 M rfl rfl _ _ _ hW (lv_sub hl [2, 3, 1, 0] rfl)

set_option maxHeartbeats 4000000 in
set_option maxRecDepth 100000 in
theorem c_X5_isFile (l : Launch) (G : GG) (C : CS) (M : MS) {t q z e0 : Nat} (ht : t < 12) (hq : q < 100) (hz : mA M 7 (100 * t + q) = nI z) (hzb : z ≤ 30) (he : mA M 2 t = nI e0) (heb : e0 ≤ 100) : Ct l G yX5_isFile cX5_isFile 7 (some .boolean) 0 0 [.ref (zad G 12 0), .int (nI t), .int (nI q)] C M (some (.int (bI (if0 M (100 * t + q) e0 q z ∧ ifL M (100 * t + q) z (z + 1) 1 = true)))) C M := by
  refine Ct_z (by decide) (Nat.le_of_ble_eq_true rfl) (bI_01 _) (fun {p e s m args below meth c A Q ls} hC hW hl hE => ?_)
  have hx := hC.1
  have hb := hC.2.1
  have hl : lv_has ls 7 [(0, .ref (zad G 12 0)), (1, .int (nI t)), (2, .int (nI q))] := hl
  refine lv_bipush (v := 100) hx hb dX5_isFile_0 (by decide) ?_
  refine lv_iload_n hx hb dX5_isFile_2 rfl (lv_at hl 1 rfl) ?_
  refine zi_mul (i := 100) (j := t) hx hb rfl rfl dX5_isFile_3 ?_
  refine lv_iload_n hx hb dX5_isFile_4 rfl (lv_at hl 2 rfl) ?_
  refine zi_add (i := 100 * t) (j := q) hx hb rfl rfl dX5_isFile_5 ?_
  refine lv_istore_n (lv' := [(3, .int (nI (100 * t + q))), (0, .ref (zad G 12 0)), (1, .int (nI t)), (2, .int (nI q))]) hx hb dX5_isFile_6 rfl hl (by decide) rfl (fun ls hl => ?_)
  refine lv_aload_n hx hb dX5_isFile_7 rfl (lv_at hl 1 rfl) ?_
  refine g12 (k := 5) (v := .ref (zad G 13 5)) hC hW (by decide) mF_X5_22 rfl dX5_isFile_8 ?_
  refine lv_iload_n hx hb dX5_isFile_11 rfl (lv_at hl 0 rfl) ?_
  refine am (i := 100 * t + q) (n := 1200) hC hW (by decide) rfl rfl (rfl) (by omega) dX5_isFile_12 ?_
  refine lv_iconst (v := 1) hx hb dX5_isFile_13 (by decide) ?_
  refine lv_icmp_ne (tgt := 49) hx hb dX5_isFile_14 (by decide) (fun h14 => ?_) (fun h14 => ?_)
  · refine lv_iconst (v := 0) hx hb dX5_isFile_49 (by decide) ?_
    refine lv_istore (lv' := [(4, .int 0), (3, .int (nI (100 * t + q))), (0, .ref (zad G 12 0)), (1, .int (nI t)), (2, .int (nI q))]) hx hb dX5_isFile_50 hl (by decide) rfl (fun ls hl => ?_)
    refine lv_aload_n hx hb dX5_isFile_52 rfl (lv_at hl 2 rfl) ?_
    refine g12 (k := 7) (v := .ref (zad G 13 7)) hC hW (by decide) mF_X5_28 rfl dX5_isFile_53 ?_
    refine lv_iload_n hx hb dX5_isFile_56 rfl (lv_at hl 1 rfl) ?_
    refine am (i := 100 * t + q) (n := 1200) hC hW (by decide) rfl rfl (rfl) (by omega) dX5_isFile_57 ?_
    refine z_top (y := nI z) (hz) ?_
    refine lv_istore (lv' := [(5, .int (nI z)), (4, .int 0), (3, .int (nI (100 * t + q))), (0, .ref (zad G 12 0)), (1, .int (nI t)), (2, .int (nI q))]) hx hb dX5_isFile_58 hl (by decide) rfl (fun ls hl => ?_)
    refine lv_iconst (v := 1) hx hb dX5_isFile_60 (by decide) ?_
    refine lv_istore (lv' := [(6, .int 1), (5, .int (nI z)), (4, .int 0), (3, .int (nI (100 * t + q))), (0, .ref (zad G 12 0)), (1, .int (nI t)), (2, .int (nI q))]) hx hb dX5_isFile_61 hl (by decide) rfl (fun ls hl => ?_)
    refine lv_iload hx hb dX5_isFile_63 (lv_at hl 0 rfl) ?_
    refine lv_iload hx hb dX5_isFile_65 (lv_at hl 1 rfl) ?_
    refine lv_iconst (v := 1) hx hb dX5_isFile_67 (by decide) ?_
    refine zi_add (i := z) (j := 1) hx hb rfl rfl dX5_isFile_68 ?_
    refine zc_gt (i := 1) (j := z + 1) (tgt := 126) hx hb rfl rfl (by omega) (by omega) dX5_isFile_69 (by decide) (fun h69 => ?_) (fun h69 => ?_)
    · refine lv_iload hx hb dX5_isFile_126 (lv_at hl 2 rfl) ?_
      have qr : (0 : Int32) = bI (if0 M (100 * t + q) e0 q z ∧ ifL M (100 * t + q) z (z + 1) 1 = true) := by exact bI_f (fun q => h14 q.1.1)
      exact hE hW qr dX5_isFile_128
    · refine lv_iload hx hb dX5_isFile_72 (lv_at hl 2 rfl) ?_
      refine lv_if_eq (tgt := 126) hx hb dX5_isFile_74 (by decide) (fun _ => ?_) (fun q => absurd (by decide) q)
      refine lv_iload hx hb dX5_isFile_126 (lv_at hl 2 rfl) ?_
      have qr : (0 : Int32) = bI (if0 M (100 * t + q) e0 q z ∧ ifL M (100 * t + q) z (z + 1) 1 = true) := by exact bI_f (fun q => h14 q.1.1)
      exact hE hW qr dX5_isFile_128
  · refine lv_iload_n hx hb dX5_isFile_17 rfl (lv_at hl 3 rfl) ?_
    refine lv_aload_n hx hb dX5_isFile_18 rfl (lv_at hl 1 rfl) ?_
    refine g12 (k := 7) (v := .ref (zad G 13 7)) hC hW (by decide) mF_X5_28 rfl dX5_isFile_19 ?_
    refine lv_iload_n hx hb dX5_isFile_22 rfl (lv_at hl 0 rfl) ?_
    refine am (i := 100 * t + q) (n := 1200) hC hW (by decide) rfl rfl (rfl) (by omega) dX5_isFile_23 ?_
    refine z_top (y := nI z) (hz) ?_
    refine zi_add (i := q) (j := z) hx hb rfl rfl dX5_isFile_24 ?_
    refine lv_iconst (v := 1) hx hb dX5_isFile_25 (by decide) ?_
    refine zi_add (i := q + z) (j := 1) hx hb rfl rfl dX5_isFile_26 ?_
    refine lv_aload_n hx hb dX5_isFile_27 rfl (lv_at hl 1 rfl) ?_
    refine g12 (k := 2) (v := .ref (zad G 13 2)) hC hW (by decide) mF_X5_13 rfl dX5_isFile_28 ?_
    refine lv_iload_n hx hb dX5_isFile_31 rfl (lv_at hl 2 rfl) ?_
    refine am (i := t) (n := 12) hC hW (by decide) rfl rfl (rfl) (by omega) dX5_isFile_32 ?_
    refine z_top (y := nI e0) (he) ?_
    refine zc_ge (i := q + z + 1) (j := e0) (tgt := 49) hx hb rfl rfl (by omega) (by omega) dX5_isFile_33 (by decide) (fun h33 => ?_) (fun h33 => ?_)
    · refine lv_iconst (v := 0) hx hb dX5_isFile_49 (by decide) ?_
      refine lv_istore (lv' := [(4, .int 0), (3, .int (nI (100 * t + q))), (0, .ref (zad G 12 0)), (1, .int (nI t)), (2, .int (nI q))]) hx hb dX5_isFile_50 hl (by decide) rfl (fun ls hl => ?_)
      refine lv_aload_n hx hb dX5_isFile_52 rfl (lv_at hl 2 rfl) ?_
      refine g12 (k := 7) (v := .ref (zad G 13 7)) hC hW (by decide) mF_X5_28 rfl dX5_isFile_53 ?_
      refine lv_iload_n hx hb dX5_isFile_56 rfl (lv_at hl 1 rfl) ?_
      refine am (i := 100 * t + q) (n := 1200) hC hW (by decide) rfl rfl (rfl) (by omega) dX5_isFile_57 ?_
      refine z_top (y := nI z) (hz) ?_
      refine lv_istore (lv' := [(5, .int (nI z)), (4, .int 0), (3, .int (nI (100 * t + q))), (0, .ref (zad G 12 0)), (1, .int (nI t)), (2, .int (nI q))]) hx hb dX5_isFile_58 hl (by decide) rfl (fun ls hl => ?_)
      refine lv_iconst (v := 1) hx hb dX5_isFile_60 (by decide) ?_
      refine lv_istore (lv' := [(6, .int 1), (5, .int (nI z)), (4, .int 0), (3, .int (nI (100 * t + q))), (0, .ref (zad G 12 0)), (1, .int (nI t)), (2, .int (nI q))]) hx hb dX5_isFile_61 hl (by decide) rfl (fun ls hl => ?_)
      refine lv_iload hx hb dX5_isFile_63 (lv_at hl 0 rfl) ?_
      refine lv_iload hx hb dX5_isFile_65 (lv_at hl 1 rfl) ?_
      refine lv_iconst (v := 1) hx hb dX5_isFile_67 (by decide) ?_
      refine zi_add (i := z) (j := 1) hx hb rfl rfl dX5_isFile_68 ?_
      refine zc_gt (i := 1) (j := z + 1) (tgt := 126) hx hb rfl rfl (by omega) (by omega) dX5_isFile_69 (by decide) (fun h69 => ?_) (fun h69 => ?_)
      · refine lv_iload hx hb dX5_isFile_126 (lv_at hl 2 rfl) ?_
        have qr : (0 : Int32) = bI (if0 M (100 * t + q) e0 q z ∧ ifL M (100 * t + q) z (z + 1) 1 = true) := by exact bI_f (fun q => absurd q.1.2.1 (by omega))
        exact hE hW qr dX5_isFile_128
      · refine lv_iload hx hb dX5_isFile_72 (lv_at hl 2 rfl) ?_
        refine lv_if_eq (tgt := 126) hx hb dX5_isFile_74 (by decide) (fun _ => ?_) (fun q => absurd (by decide) q)
        refine lv_iload hx hb dX5_isFile_126 (lv_at hl 2 rfl) ?_
        have qr : (0 : Int32) = bI (if0 M (100 * t + q) e0 q z ∧ ifL M (100 * t + q) z (z + 1) 1 = true) := by exact bI_f (fun q => absurd q.1.2.1 (by omega))
        exact hE hW qr dX5_isFile_128
    · refine lv_aload_n hx hb dX5_isFile_36 rfl (lv_at hl 1 rfl) ?_
      refine g12 (k := 8) (v := .ref (zad G 13 8)) hC hW (by decide) mF_X5_31 rfl dX5_isFile_37 ?_
      refine lv_iload_n hx hb dX5_isFile_40 rfl (lv_at hl 0 rfl) ?_
      refine amz (i := 100 * t + q) (n := 1200) hC hW (by decide) rfl rfl (rfl) (by omega) dX5_isFile_41 ?_
      refine lv_if_ne (tgt := 49) hx hb dX5_isFile_42 (by decide) (fun h42 => ?_) (fun h42 => ?_)
      · refine lv_iconst (v := 0) hx hb dX5_isFile_49 (by decide) ?_
        refine lv_istore (lv' := [(4, .int 0), (3, .int (nI (100 * t + q))), (0, .ref (zad G 12 0)), (1, .int (nI t)), (2, .int (nI q))]) hx hb dX5_isFile_50 hl (by decide) rfl (fun ls hl => ?_)
        refine lv_aload_n hx hb dX5_isFile_52 rfl (lv_at hl 2 rfl) ?_
        refine g12 (k := 7) (v := .ref (zad G 13 7)) hC hW (by decide) mF_X5_28 rfl dX5_isFile_53 ?_
        refine lv_iload_n hx hb dX5_isFile_56 rfl (lv_at hl 1 rfl) ?_
        refine am (i := 100 * t + q) (n := 1200) hC hW (by decide) rfl rfl (rfl) (by omega) dX5_isFile_57 ?_
        refine z_top (y := nI z) (hz) ?_
        refine lv_istore (lv' := [(5, .int (nI z)), (4, .int 0), (3, .int (nI (100 * t + q))), (0, .ref (zad G 12 0)), (1, .int (nI t)), (2, .int (nI q))]) hx hb dX5_isFile_58 hl (by decide) rfl (fun ls hl => ?_)
        refine lv_iconst (v := 1) hx hb dX5_isFile_60 (by decide) ?_
        refine lv_istore (lv' := [(6, .int 1), (5, .int (nI z)), (4, .int 0), (3, .int (nI (100 * t + q))), (0, .ref (zad G 12 0)), (1, .int (nI t)), (2, .int (nI q))]) hx hb dX5_isFile_61 hl (by decide) rfl (fun ls hl => ?_)
        refine lv_iload hx hb dX5_isFile_63 (lv_at hl 0 rfl) ?_
        refine lv_iload hx hb dX5_isFile_65 (lv_at hl 1 rfl) ?_
        refine lv_iconst (v := 1) hx hb dX5_isFile_67 (by decide) ?_
        refine zi_add (i := z) (j := 1) hx hb rfl rfl dX5_isFile_68 ?_
        refine zc_gt (i := 1) (j := z + 1) (tgt := 126) hx hb rfl rfl (by omega) (by omega) dX5_isFile_69 (by decide) (fun h69 => ?_) (fun h69 => ?_)
        · refine lv_iload hx hb dX5_isFile_126 (lv_at hl 2 rfl) ?_
          have qr : (0 : Int32) = bI (if0 M (100 * t + q) e0 q z ∧ ifL M (100 * t + q) z (z + 1) 1 = true) := by exact bI_f (fun q => h42 q.1.2.2)
          exact hE hW qr dX5_isFile_128
        · refine lv_iload hx hb dX5_isFile_72 (lv_at hl 2 rfl) ?_
          refine lv_if_eq (tgt := 126) hx hb dX5_isFile_74 (by decide) (fun _ => ?_) (fun q => absurd (by decide) q)
          refine lv_iload hx hb dX5_isFile_126 (lv_at hl 2 rfl) ?_
          have qr : (0 : Int32) = bI (if0 M (100 * t + q) e0 q z ∧ ifL M (100 * t + q) z (z + 1) 1 = true) := by exact bI_f (fun q => h42 q.1.2.2)
          exact hE hW qr dX5_isFile_128
      · refine lv_iconst (v := 1) hx hb dX5_isFile_45 (by decide) ?_
        refine lv_goto (tgt := 50) hx hb dX5_isFile_46 (by decide) ?_
        refine lv_istore (lv' := [(4, .int 1), (3, .int (nI (100 * t + q))), (0, .ref (zad G 12 0)), (1, .int (nI t)), (2, .int (nI q))]) hx hb dX5_isFile_50 hl (by decide) rfl (fun ls hl => ?_)
        refine lv_aload_n hx hb dX5_isFile_52 rfl (lv_at hl 2 rfl) ?_
        refine g12 (k := 7) (v := .ref (zad G 13 7)) hC hW (by decide) mF_X5_28 rfl dX5_isFile_53 ?_
        refine lv_iload_n hx hb dX5_isFile_56 rfl (lv_at hl 1 rfl) ?_
        refine am (i := 100 * t + q) (n := 1200) hC hW (by decide) rfl rfl (rfl) (by omega) dX5_isFile_57 ?_
        refine z_top (y := nI z) (hz) ?_
        refine lv_istore (lv' := [(5, .int (nI z)), (4, .int 1), (3, .int (nI (100 * t + q))), (0, .ref (zad G 12 0)), (1, .int (nI t)), (2, .int (nI q))]) hx hb dX5_isFile_58 hl (by decide) rfl (fun ls hl => ?_)
        refine lv_iconst (v := 1) hx hb dX5_isFile_60 (by decide) ?_
        refine lv_istore (lv' := [(6, .int 1), (5, .int (nI z)), (4, .int 1), (3, .int (nI (100 * t + q))), (0, .ref (zad G 12 0)), (1, .int (nI t)), (2, .int (nI q))]) hx hb dX5_isFile_61 hl (by decide) rfl (fun ls hl => ?_)
        have lp : ∀ (k : Nat) (i : Nat), i + k = z + 2 → 1 ≤ i → ifL M (100 * t + q) z k i = ifL M (100 * t + q) z (z + 1) 1 → ∀ (H : Heap) (locs : List Loc) (ls : Array Slot), Wd G s A s.heap H locs C M → lv_has ls 7 [(0, .ref (zad G 12 0)), (1, .int (nI t)), (2, .int (nI q)), (3, .int (nI (100 * t + q))), (4, .int 1), (5, .int (nI z)), (6, .int (nI i))] → W p l e { frames := 0, cells := 0, slots := 0, locals := 0 } s m args below meth c H locs 0 0 Q (F0 m 63 ls []) := by
          intro k
          induction k with
          | zero =>
            intro i hk hi1 hD H locs ls hW hl
            refine lv_iload hx hb dX5_isFile_63 (lv_at hl 6 rfl) ?_
            refine lv_iload hx hb dX5_isFile_65 (lv_at hl 5 rfl) ?_
            refine lv_iconst (v := 1) hx hb dX5_isFile_67 (by decide) ?_
            refine zi_add (i := z) (j := 1) hx hb rfl rfl dX5_isFile_68 ?_
            refine zc_gt (i := i) (j := z + 1) (tgt := 126) hx hb rfl rfl (by omega) (by omega) dX5_isFile_69 (by decide) (fun h69 => ?_) (fun h69 => ?_)
            · refine lv_iload hx hb dX5_isFile_126 (lv_at hl 4 rfl) ?_
              have qr : (1 : Int32) = bI (if0 M (100 * t + q) e0 q z ∧ ifL M (100 * t + q) z (z + 1) 1 = true) := by exact bI_t ⟨⟨h14, h33, h42⟩, by rw [← hD]; rfl⟩
              exact hE hW qr dX5_isFile_128
            · exact absurd h69 (by omega)
          | succ k ih =>
            intro i hk hi1 hD H locs ls hW hl
            refine lv_iload hx hb dX5_isFile_63 (lv_at hl 6 rfl) ?_
            refine lv_iload hx hb dX5_isFile_65 (lv_at hl 5 rfl) ?_
            refine lv_iconst (v := 1) hx hb dX5_isFile_67 (by decide) ?_
            refine zi_add (i := z) (j := 1) hx hb rfl rfl dX5_isFile_68 ?_
            refine zc_gt (i := i) (j := z + 1) (tgt := 126) hx hb rfl rfl (by omega) (by omega) dX5_isFile_69 (by decide) (fun h69 => ?_) (fun h69 => ?_)
            · exact absurd h69 (by omega)
            · refine lv_iload hx hb dX5_isFile_72 (lv_at hl 4 rfl) ?_
              refine lv_if_eq (tgt := 126) hx hb dX5_isFile_74 (by decide) (fun q => absurd q (by decide)) (fun _ => ?_)
              refine lv_aload_n hx hb dX5_isFile_77 rfl (lv_at hl 0 rfl) ?_
              refine g12 (k := 5) (v := .ref (zad G 13 5)) hC hW (by decide) mF_X5_22 rfl dX5_isFile_78 ?_
              refine lv_iload_n hx hb dX5_isFile_81 rfl (lv_at hl 3 rfl) ?_
              refine lv_iload hx hb dX5_isFile_82 (lv_at hl 6 rfl) ?_
              refine zi_add (i := 100 * t + q) (j := i) hx hb rfl rfl dX5_isFile_84 ?_
              refine am (i := 100 * t + q + i) (n := 1200) hC hW (by decide) rfl rfl (rfl) (by omega) dX5_isFile_85 ?_
              refine lv_iload hx hb dX5_isFile_86 (lv_at hl 6 rfl) ?_
              refine lv_iload hx hb dX5_isFile_88 (lv_at hl 5 rfl) ?_
              refine zc_gt (i := i) (j := z) (tgt := 97) hx hb rfl rfl (by omega) (by omega) dX5_isFile_90 (by decide) (fun h90 => ?_) (fun h90 => ?_)
              · refine lv_iconst (v := 3) hx hb dX5_isFile_97 (by decide) ?_
                refine lv_icmp_ne (tgt := 117) hx hb dX5_isFile_98 (by decide) (fun h98 => ?_) (fun h98 => ?_)
                · refine lv_iconst (v := 0) hx hb dX5_isFile_117 (by decide) ?_
                  refine lv_istore (lv' := [(4, .int 0), (0, .ref (zad G 12 0)), (1, .int (nI t)), (2, .int (nI q)), (3, .int (nI (100 * t + q))), (5, .int (nI z)), (6, .int (nI i))]) hx hb dX5_isFile_118 hl (by decide) rfl (fun ls hl => ?_)
                  refine lv_iinc (k := 6) (v := nI (i + 1)) (lv' := [(6, .int (nI (i + 1))), (4, .int 0), (0, .ref (zad G 12 0)), (1, .int (nI t)), (2, .int (nI q)), (3, .int (nI (100 * t + q))), (5, .int (nI z))]) hx hb dX5_isFile_120 hl rfl (nI_inc _) (by decide) rfl (fun ls hl => ?_)
                  refine lv_goto (tgt := 63) hx hb dX5_isFile_123 (by decide) ?_
                  refine lv_iload hx hb dX5_isFile_63 (lv_at hl 0 rfl) ?_
                  refine lv_iload hx hb dX5_isFile_65 (lv_at hl 6 rfl) ?_
                  refine lv_iconst (v := 1) hx hb dX5_isFile_67 (by decide) ?_
                  refine zi_add (i := z) (j := 1) hx hb rfl rfl dX5_isFile_68 ?_
                  refine zc_gt (i := i + 1) (j := z + 1) (tgt := 126) hx hb rfl rfl (by omega) (by omega) dX5_isFile_69 (by decide) (fun h69 => ?_) (fun h69 => ?_)
                  · refine lv_iload hx hb dX5_isFile_126 (lv_at hl 1 rfl) ?_
                    have qr : (0 : Int32) = bI (if0 M (100 * t + q) e0 q z ∧ ifL M (100 * t + q) z (z + 1) 1 = true) := by
                      have hd2 : ifL M (100 * t + q) z (z + 1) 1 = false := by rw [← hD, ifL, if_neg (fun z => h98 (z.1.trans (if_pos (by omega))))]
                      exact bI_f (fun z => by rw [hd2] at z; exact absurd z.2 (by decide))
                    exact hE hW qr dX5_isFile_128
                  · refine lv_iload hx hb dX5_isFile_72 (lv_at hl 1 rfl) ?_
                    refine lv_if_eq (tgt := 126) hx hb dX5_isFile_74 (by decide) (fun _ => ?_) (fun q => absurd (by decide) q)
                    refine lv_iload hx hb dX5_isFile_126 (lv_at hl 1 rfl) ?_
                    have qr : (0 : Int32) = bI (if0 M (100 * t + q) e0 q z ∧ ifL M (100 * t + q) z (z + 1) 1 = true) := by
                      have hd2 : ifL M (100 * t + q) z (z + 1) 1 = false := by rw [← hD, ifL, if_neg (fun z => h98 (z.1.trans (if_pos (by omega))))]
                      exact bI_f (fun z => by rw [hd2] at z; exact absurd z.2 (by decide))
                    exact hE hW qr dX5_isFile_128
                · refine lv_aload_n hx hb dX5_isFile_101 rfl (lv_at hl 0 rfl) ?_
                  refine g12 (k := 8) (v := .ref (zad G 13 8)) hC hW (by decide) mF_X5_31 rfl dX5_isFile_102 ?_
                  refine lv_iload_n hx hb dX5_isFile_105 rfl (lv_at hl 3 rfl) ?_
                  refine lv_iload hx hb dX5_isFile_106 (lv_at hl 6 rfl) ?_
                  refine zi_add (i := 100 * t + q) (j := i) hx hb rfl rfl dX5_isFile_108 ?_
                  refine amz (i := 100 * t + q + i) (n := 1200) hC hW (by decide) rfl rfl (rfl) (by omega) dX5_isFile_109 ?_
                  refine lv_if_ne (tgt := 117) hx hb dX5_isFile_110 (by decide) (fun h110 => ?_) (fun h110 => ?_)
                  · refine lv_iconst (v := 0) hx hb dX5_isFile_117 (by decide) ?_
                    refine lv_istore (lv' := [(4, .int 0), (0, .ref (zad G 12 0)), (1, .int (nI t)), (2, .int (nI q)), (3, .int (nI (100 * t + q))), (5, .int (nI z)), (6, .int (nI i))]) hx hb dX5_isFile_118 hl (by decide) rfl (fun ls hl => ?_)
                    refine lv_iinc (k := 6) (v := nI (i + 1)) (lv' := [(6, .int (nI (i + 1))), (4, .int 0), (0, .ref (zad G 12 0)), (1, .int (nI t)), (2, .int (nI q)), (3, .int (nI (100 * t + q))), (5, .int (nI z))]) hx hb dX5_isFile_120 hl rfl (nI_inc _) (by decide) rfl (fun ls hl => ?_)
                    refine lv_goto (tgt := 63) hx hb dX5_isFile_123 (by decide) ?_
                    refine lv_iload hx hb dX5_isFile_63 (lv_at hl 0 rfl) ?_
                    refine lv_iload hx hb dX5_isFile_65 (lv_at hl 6 rfl) ?_
                    refine lv_iconst (v := 1) hx hb dX5_isFile_67 (by decide) ?_
                    refine zi_add (i := z) (j := 1) hx hb rfl rfl dX5_isFile_68 ?_
                    refine zc_gt (i := i + 1) (j := z + 1) (tgt := 126) hx hb rfl rfl (by omega) (by omega) dX5_isFile_69 (by decide) (fun h69 => ?_) (fun h69 => ?_)
                    · refine lv_iload hx hb dX5_isFile_126 (lv_at hl 1 rfl) ?_
                      have qr : (0 : Int32) = bI (if0 M (100 * t + q) e0 q z ∧ ifL M (100 * t + q) z (z + 1) 1 = true) := by
                        have hd2 : ifL M (100 * t + q) z (z + 1) 1 = false := by rw [← hD, ifL, if_neg (fun z => h110 z.2)]
                        exact bI_f (fun z => by rw [hd2] at z; exact absurd z.2 (by decide))
                      exact hE hW qr dX5_isFile_128
                    · refine lv_iload hx hb dX5_isFile_72 (lv_at hl 1 rfl) ?_
                      refine lv_if_eq (tgt := 126) hx hb dX5_isFile_74 (by decide) (fun _ => ?_) (fun q => absurd (by decide) q)
                      refine lv_iload hx hb dX5_isFile_126 (lv_at hl 1 rfl) ?_
                      have qr : (0 : Int32) = bI (if0 M (100 * t + q) e0 q z ∧ ifL M (100 * t + q) z (z + 1) 1 = true) := by
                        have hd2 : ifL M (100 * t + q) z (z + 1) 1 = false := by rw [← hD, ifL, if_neg (fun z => h110 z.2)]
                        exact bI_f (fun z => by rw [hd2] at z; exact absurd z.2 (by decide))
                      exact hE hW qr dX5_isFile_128
                  · refine lv_iconst (v := 1) hx hb dX5_isFile_113 (by decide) ?_
                    refine lv_goto (tgt := 118) hx hb dX5_isFile_114 (by decide) ?_
                    refine lv_istore (lv' := [(4, .int 1), (0, .ref (zad G 12 0)), (1, .int (nI t)), (2, .int (nI q)), (3, .int (nI (100 * t + q))), (5, .int (nI z)), (6, .int (nI i))]) hx hb dX5_isFile_118 hl (by decide) rfl (fun ls hl => ?_)
                    refine lv_iinc (k := 6) (v := nI (i + 1)) (lv' := [(6, .int (nI (i + 1))), (4, .int 1), (0, .ref (zad G 12 0)), (1, .int (nI t)), (2, .int (nI q)), (3, .int (nI (100 * t + q))), (5, .int (nI z))]) hx hb dX5_isFile_120 hl rfl (nI_inc _) (by decide) rfl (fun ls hl => ?_)
                    refine lv_goto (tgt := 63) hx hb dX5_isFile_123 (by decide) ?_
                    exact ih (i + 1) (by omega) (by omega) (by rw [← hD, ifL, if_pos ⟨by rw [if_pos (by omega)]; exact h98, h110⟩]) _ _ _ hW (lv_sub hl [2, 3, 4, 5, 1, 6, 0] rfl)
              · refine lv_iconst (v := 2) hx hb dX5_isFile_93 (by decide) ?_
                refine lv_goto (tgt := 98) hx hb dX5_isFile_94 (by decide) ?_
                refine lv_icmp_ne (tgt := 117) hx hb dX5_isFile_98 (by decide) (fun h98 => ?_) (fun h98 => ?_)
                · refine lv_iconst (v := 0) hx hb dX5_isFile_117 (by decide) ?_
                  refine lv_istore (lv' := [(4, .int 0), (0, .ref (zad G 12 0)), (1, .int (nI t)), (2, .int (nI q)), (3, .int (nI (100 * t + q))), (5, .int (nI z)), (6, .int (nI i))]) hx hb dX5_isFile_118 hl (by decide) rfl (fun ls hl => ?_)
                  refine lv_iinc (k := 6) (v := nI (i + 1)) (lv' := [(6, .int (nI (i + 1))), (4, .int 0), (0, .ref (zad G 12 0)), (1, .int (nI t)), (2, .int (nI q)), (3, .int (nI (100 * t + q))), (5, .int (nI z))]) hx hb dX5_isFile_120 hl rfl (nI_inc _) (by decide) rfl (fun ls hl => ?_)
                  refine lv_goto (tgt := 63) hx hb dX5_isFile_123 (by decide) ?_
                  refine lv_iload hx hb dX5_isFile_63 (lv_at hl 0 rfl) ?_
                  refine lv_iload hx hb dX5_isFile_65 (lv_at hl 6 rfl) ?_
                  refine lv_iconst (v := 1) hx hb dX5_isFile_67 (by decide) ?_
                  refine zi_add (i := z) (j := 1) hx hb rfl rfl dX5_isFile_68 ?_
                  refine zc_gt (i := i + 1) (j := z + 1) (tgt := 126) hx hb rfl rfl (by omega) (by omega) dX5_isFile_69 (by decide) (fun h69 => ?_) (fun h69 => ?_)
                  · refine lv_iload hx hb dX5_isFile_126 (lv_at hl 1 rfl) ?_
                    have qr : (0 : Int32) = bI (if0 M (100 * t + q) e0 q z ∧ ifL M (100 * t + q) z (z + 1) 1 = true) := by
                      have hd2 : ifL M (100 * t + q) z (z + 1) 1 = false := by rw [← hD, ifL, if_neg (fun z => h98 (z.1.trans (if_neg (by omega))))]
                      exact bI_f (fun z => by rw [hd2] at z; exact absurd z.2 (by decide))
                    exact hE hW qr dX5_isFile_128
                  · refine lv_iload hx hb dX5_isFile_72 (lv_at hl 1 rfl) ?_
                    refine lv_if_eq (tgt := 126) hx hb dX5_isFile_74 (by decide) (fun _ => ?_) (fun q => absurd (by decide) q)
                    refine lv_iload hx hb dX5_isFile_126 (lv_at hl 1 rfl) ?_
                    have qr : (0 : Int32) = bI (if0 M (100 * t + q) e0 q z ∧ ifL M (100 * t + q) z (z + 1) 1 = true) := by
                      have hd2 : ifL M (100 * t + q) z (z + 1) 1 = false := by rw [← hD, ifL, if_neg (fun z => h98 (z.1.trans (if_neg (by omega))))]
                      exact bI_f (fun z => by rw [hd2] at z; exact absurd z.2 (by decide))
                    exact hE hW qr dX5_isFile_128
                · refine lv_aload_n hx hb dX5_isFile_101 rfl (lv_at hl 0 rfl) ?_
                  refine g12 (k := 8) (v := .ref (zad G 13 8)) hC hW (by decide) mF_X5_31 rfl dX5_isFile_102 ?_
                  refine lv_iload_n hx hb dX5_isFile_105 rfl (lv_at hl 3 rfl) ?_
                  refine lv_iload hx hb dX5_isFile_106 (lv_at hl 6 rfl) ?_
                  refine zi_add (i := 100 * t + q) (j := i) hx hb rfl rfl dX5_isFile_108 ?_
                  refine amz (i := 100 * t + q + i) (n := 1200) hC hW (by decide) rfl rfl (rfl) (by omega) dX5_isFile_109 ?_
                  refine lv_if_ne (tgt := 117) hx hb dX5_isFile_110 (by decide) (fun h110 => ?_) (fun h110 => ?_)
                  · refine lv_iconst (v := 0) hx hb dX5_isFile_117 (by decide) ?_
                    refine lv_istore (lv' := [(4, .int 0), (0, .ref (zad G 12 0)), (1, .int (nI t)), (2, .int (nI q)), (3, .int (nI (100 * t + q))), (5, .int (nI z)), (6, .int (nI i))]) hx hb dX5_isFile_118 hl (by decide) rfl (fun ls hl => ?_)
                    refine lv_iinc (k := 6) (v := nI (i + 1)) (lv' := [(6, .int (nI (i + 1))), (4, .int 0), (0, .ref (zad G 12 0)), (1, .int (nI t)), (2, .int (nI q)), (3, .int (nI (100 * t + q))), (5, .int (nI z))]) hx hb dX5_isFile_120 hl rfl (nI_inc _) (by decide) rfl (fun ls hl => ?_)
                    refine lv_goto (tgt := 63) hx hb dX5_isFile_123 (by decide) ?_
                    refine lv_iload hx hb dX5_isFile_63 (lv_at hl 0 rfl) ?_
                    refine lv_iload hx hb dX5_isFile_65 (lv_at hl 6 rfl) ?_
                    refine lv_iconst (v := 1) hx hb dX5_isFile_67 (by decide) ?_
                    refine zi_add (i := z) (j := 1) hx hb rfl rfl dX5_isFile_68 ?_
                    refine zc_gt (i := i + 1) (j := z + 1) (tgt := 126) hx hb rfl rfl (by omega) (by omega) dX5_isFile_69 (by decide) (fun h69 => ?_) (fun h69 => ?_)
                    · refine lv_iload hx hb dX5_isFile_126 (lv_at hl 1 rfl) ?_
                      have qr : (0 : Int32) = bI (if0 M (100 * t + q) e0 q z ∧ ifL M (100 * t + q) z (z + 1) 1 = true) := by
                        have hd2 : ifL M (100 * t + q) z (z + 1) 1 = false := by rw [← hD, ifL, if_neg (fun z => h110 z.2)]
                        exact bI_f (fun z => by rw [hd2] at z; exact absurd z.2 (by decide))
                      exact hE hW qr dX5_isFile_128
                    · refine lv_iload hx hb dX5_isFile_72 (lv_at hl 1 rfl) ?_
                      refine lv_if_eq (tgt := 126) hx hb dX5_isFile_74 (by decide) (fun _ => ?_) (fun q => absurd (by decide) q)
                      refine lv_iload hx hb dX5_isFile_126 (lv_at hl 1 rfl) ?_
                      have qr : (0 : Int32) = bI (if0 M (100 * t + q) e0 q z ∧ ifL M (100 * t + q) z (z + 1) 1 = true) := by
                        have hd2 : ifL M (100 * t + q) z (z + 1) 1 = false := by rw [← hD, ifL, if_neg (fun z => h110 z.2)]
                        exact bI_f (fun z => by rw [hd2] at z; exact absurd z.2 (by decide))
                      exact hE hW qr dX5_isFile_128
                  · refine lv_iconst (v := 1) hx hb dX5_isFile_113 (by decide) ?_
                    refine lv_goto (tgt := 118) hx hb dX5_isFile_114 (by decide) ?_
                    refine lv_istore (lv' := [(4, .int 1), (0, .ref (zad G 12 0)), (1, .int (nI t)), (2, .int (nI q)), (3, .int (nI (100 * t + q))), (5, .int (nI z)), (6, .int (nI i))]) hx hb dX5_isFile_118 hl (by decide) rfl (fun ls hl => ?_)
                    refine lv_iinc (k := 6) (v := nI (i + 1)) (lv' := [(6, .int (nI (i + 1))), (4, .int 1), (0, .ref (zad G 12 0)), (1, .int (nI t)), (2, .int (nI q)), (3, .int (nI (100 * t + q))), (5, .int (nI z))]) hx hb dX5_isFile_120 hl rfl (nI_inc _) (by decide) rfl (fun ls hl => ?_)
                    refine lv_goto (tgt := 63) hx hb dX5_isFile_123 (by decide) ?_
                    exact ih (i + 1) (by omega) (by omega) (by rw [← hD, ifL, if_pos ⟨by rw [if_neg (by omega)]; exact h98, h110⟩]) _ _ _ hW (lv_sub hl [2, 3, 4, 5, 1, 6, 0] rfl)
        exact lp (z + 1) 1 (by omega) (Nat.le_refl 1) rfl _ _ _ hW (lv_sub hl [4, 5, 6, 3, 2, 1, 0] rfl)

