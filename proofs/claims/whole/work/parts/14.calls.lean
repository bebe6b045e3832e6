/-! ===== the class: its calls ===== -/
abbrev tN (x : Int32) : Nat := x.toNatClampNeg
theorem tN_nI {a : Nat} (h : a < 2 ^ 31) : tN (nI a) = a := nI_clamp h
theorem nI_m2 : ∀ h, h < 100 → ¬ (nI h = -2) := by decide +kernel
theorem not_bad {n t : Nat} (hn : n ≤ 12) (ht : t < n) : ¬ badT n (nI t) := by
  intro h
  rcases h with h | h
  · exact nI_pos (by omega) h
  · exact absurd ((nI_leI (by omega) (by omega)).mp h) (by omega)
theorem tape_cases {n : Nat} (hn : n ≤ 12) (x : Int32) : badT n x ∨ ∃ t, t < n ∧ x = nI t ∧ ¬ badT n x ∧ tN x = t := by
  rcases tape_arg hn x with h | ⟨t, ht, rfl⟩
  · exact Or.inl h
  · exact Or.inr ⟨t, ht, rfl, not_bad hn ht, tN_nI (by omega)⟩
theorem place_arg {x : Int32} (h : placeP x) : ∃ a, a < 100 ∧ x = nI a ∧ tN x = a := by
  rcases pk_ix x (n := 100) (by decide) with q | q | ⟨j, hj, rfl⟩
  · exact absurd q h.1
  · exact absurd q h.2
  · exact ⟨j, hj, rfl, tN_nI (by omega)⟩
theorem rjC_M {C : CS} {t h d' : Nat} : cM (rjC C t h).2 d' = cM C d' := by
  unfold rjC
  split
  · rfl
  · rename_i d hN
    show cM (briC _ _ _) d' = _
    rw [briC_M]
    split
    · rename_i q; subst q; exact (nd_some hN).2.2.symm
    · rename_i q
      have h1 : cM (rj1 C d t h).2 d' = if d' = d then some t else cM C d' := by
        by_cases z : (carC C d t).1 ≠ 0
        · rw [show rj1 C d t h = carC C d t from if_pos z]; exact carC_M d'
        · rw [show rj1 C d t h = rfC (carC C d t).2 d t h from if_neg z, Sm_rfC.2.2]; exact carC_M d'
      rw [h1, if_neg q]
theorem rjC_I {C : CS} {t h : Nat} (hI : Iv C) : Iv (rjC C t h).2 := by
  unfold rjC
  split
  · exact hI
  · show Iv (briC _ _ _)
    refine briC_I ?_
    unfold rj1; split; exact carC_I hI; exact Sm_rfC.I (carC_I hI)
theorem couC_M (C : CS) (w : Int32) : cM (couC C w) = cM C := by unfold couC cou1; split <;> rfl
theorem couC_B (C : CS) (w : Int32) : cB (couC C w) = cB C := by unfold couC cou1; split <;> rfl
theorem couC_N (C : CS) (w : Int32) : cN (couC C w) = cN C := by unfold couC cou1; split <;> rfl
theorem couC_I {C : CS} {w : Int32} (hI : Iv C) : Iv (couC C w) := Iv_of hI (fun _ => by rw [couC_N]) (fun _ _ => by rw [couC_B]) (fun _ => by rw [couC_N])
def copT (n : Nat) (C : CS) (x : Int32) : Int32 × CS := if badT n x then (-1, C) else if cN C 5 12 3 = 0 then (-2, C) else ((copC C (tN x)).1, couC (copC C (tN x)).2 (copC C (tN x)).1)
def reaT (n : Nat) (C : CS) (x y : Int32) : Int32 × CS := if badT n y then (-1, C) else if nameP x then (match lh C (tN y) x with
  | none => (-2, C)
  | some h => ((rjC C (tN y) h).1, couC (rjC C (tN y) h).2 (rjC C (tN y) h).1)) else (-1, C)
def movT (n : Nat) (C : CS) (x y z : Int32) : Int32 × CS := if badT n y then (-1, C) else if badT n z then (-1, C) else if nameP x then (if tN y = tN z then (-1, C) else match lh C (tN y) x with
  | none => (-2, C)
  | some h => ((mjC C (tN y) h (tN z)).1, couC (mjC C (tN y) h (tN z)).2 (mjC C (tN y) h (tN z)).1)) else (-1, C)
def svS (C : CS) (j h : Nat) : CS := couC (rjC C j h).2 (rjC C j h).1
def svL (x : Int32) : Nat → Nat → Int32 → CS → Int32 × CS
  | 0, _, w, C => (w, C)
  | k + 1, j, w, C => match lh C j x with
    | none => svL x k (j + 1) w C
    | some h => if (rjC C j h).1 < 0 then (if (rjC C j h).1 = -4 then (-4, svS C j h) else svL x k (j + 1) (rjC C j h).1 (svS C j h)) else (nI j, svS C j h)
def salT (n : Nat) (C : CS) (x : Int32) : Int32 × CS := if nameP x then svL x n 0 (-2) C else (-1, C)
def scaT (n : Nat) (C : CS) (x : Int32) : Int32 × CS := if badT n x then (-1, C) else ((sjC C (tN x)).1, couC (sjC C (tN x)).2 (sjC C (tN x)).1)
def losT (n : Nat) (C : CS) (x : Int32) : Int32 × CS := if badT n x then (-1, C) else (nI (uaL (tN x) 100 0 0 C).1, (uaL (tN x) 100 0 0 C).2)
def damT (n : Nat) (C : CS) (x y z : Int32) : Int32 × CS := if badT n x then (-1, C) else if placeP y then (if z < 1 ∨ nI (100 - tN y) < z then (-1, C) else (nI (spL (tN x) (tN z) (tN y) 0 C).1, (spL (tN x) (tN z) (tN y) 0 C).2)) else (-1, C)
def jamC (C : CS) (d : Nat) (z : Int32) : Int32 × CS := if cF C 3 d 4 = 0 then (if z < -1 then (-1, C) else if z ≤ 1000 then (z, sF C 3 d 5 z) else (-1, C)) else (-1, C)
def jamT (C : CS) (x z : Int32) : Int32 × CS := if badT 3 x then (-1, C) else jamC C (tN x) z
def fixT (C : CS) (x : Int32) : Int32 × CS := if badT 3 x then (-1, C) else (if cF C 3 (tN x) 4 = 0 then 0 else 1, sF (sF C 3 (tN x) 4 0) 3 (tN x) 5 (-1))
def powT (C : CS) (x : Int32) : Int32 × CS := if x < -1 then (-1, C) else if x ≤ 100000 then (x, sF C 1 0 2 x) else (-1, C)
def plaT (n : Nat) (C : CS) (x y : Int32) : Int32 := if badT n y then -1 else if nameP x then oI (lh C (tN y) x) else -1
def bloC (C : CS) (t a : Nat) (w : Int32) : Int32 := if w = 0 then kAt C 6 t a else if w = 1 then kAt C 7 t a else if w = 2 then kAt C 8 t a else if w = 3 then bI (dmgP C t a) else -1
def bloT (n : Nat) (C : CS) (x y w : Int32) : Int32 := if badT n x then -1 else if placeP y then bloC C (tN x) (tN y) w else -1
def ttC (C : CS) (t : Nat) (w : Int32) : Int32 := if w = 0 then nI (cN C 9 t 0) else if w = 1 then nI (cN C 5 t 3) else if w = 2 then cF C 9 t 4 else if w = 3 then cF C 9 t 5 else -1
def ttT (n : Nat) (C : CS) (x w : Int32) : Int32 := if badT n x then -1 else ttC C (tN x) w
def dtC (C : CS) (d : Nat) (w : Int32) : Int32 := if w = 0 then cF C 3 d 2 else if w = 1 then cF C 3 d 3 else if w = 2 then (if cF C 3 d 4 = 0 then 0 else 1) else -1
def dtT (C : CS) (x w : Int32) : Int32 := if badT 3 x then -1 else dtC C (tN x) w
def toT (C : CS) (w : Int32) : Int32 := if w = 0 then cF C 1 0 0 else if w = 1 then cF C 1 0 1 else if w = 2 then cF C 0 0 5 else if w = 3 then cF C 0 0 6 else if w = 4 then cF C 1 0 2 else -1
def stL (sd st : Int32) : Nat → Nat → CS → CS
  | 0, _, C => C
  | k + 1, j, C => stL sd st k (j + 1) (addC C 12 2 (sd + nI j * st) 0)
def staC (C : CS) (x : Int32) (k : Nat) (sd st : Int32) : CS := addC (stL sd st k 0 (addC (sN C 5 12 3 0) 12 1 x (nI k))) 12 3 0 0
def staT (C : CS) (x z sd st : Int32) : Int32 × CS := if nameP x then (if z < 1 ∨ 30 < z then (-1, C) else (z, staC C x (tN z) sd st)) else (-1, C)
theorem sw4 (w : Int32) : w = 0 ∨ w = 1 ∨ w = 2 ∨ w = 3 ∨ (¬ w = 0 ∧ ¬ w = 1 ∧ ¬ w = 2 ∧ ¬ w = 3 ∧ (w.toInt < 0 ∨ 3 < w.toInt)) := by
  by_cases h0 : w = 0; exact Or.inl h0
  by_cases h1 : w = 1; exact Or.inr (Or.inl h1)
  by_cases h2 : w = 2; exact Or.inr (Or.inr (Or.inl h2))
  by_cases h3 : w = 3; exact Or.inr (Or.inr (Or.inr (Or.inl h3)))
  refine Or.inr (Or.inr (Or.inr (Or.inr ⟨h0, h1, h2, h3, ?_⟩)))
  have e0 : w.toInt ≠ 0 := fun q => h0 (Int32.toInt_inj.mp q)
  have e1 : w.toInt ≠ 1 := fun q => h1 (Int32.toInt_inj.mp q)
  have e2 : w.toInt ≠ 2 := fun q => h2 (Int32.toInt_inj.mp q)
  have e3 : w.toInt ≠ 3 := fun q => h3 (Int32.toInt_inj.mp q)
  omega
theorem sw3 (w : Int32) : w = 0 ∨ w = 1 ∨ w = 2 ∨ (¬ w = 0 ∧ ¬ w = 1 ∧ ¬ w = 2 ∧ (w.toInt < 0 ∨ 2 < w.toInt)) := by
  rcases sw4 w with h | h | h | h | h
  · exact Or.inl h
  · exact Or.inr (Or.inl h)
  · exact Or.inr (Or.inr (Or.inl h))
  · subst h; exact Or.inr (Or.inr (Or.inr ⟨by decide, by decide, by decide, by decide⟩))
  · exact Or.inr (Or.inr (Or.inr ⟨h.1, h.2.1, h.2.2.1, by have := h.2.2.2.2; omega⟩))
theorem sw5 (w : Int32) : w = 0 ∨ w = 1 ∨ w = 2 ∨ w = 3 ∨ w = 4 ∨ (¬ w = 0 ∧ ¬ w = 1 ∧ ¬ w = 2 ∧ ¬ w = 3 ∧ ¬ w = 4 ∧ (w.toInt < 0 ∨ 4 < w.toInt)) := by
  rcases sw4 w with h | h | h | h | h
  · exact Or.inl h
  · exact Or.inr (Or.inl h)
  · exact Or.inr (Or.inr (Or.inl h))
  · exact Or.inr (Or.inr (Or.inr (Or.inl h)))
  · by_cases h4 : w = 4
    · exact Or.inr (Or.inr (Or.inr (Or.inr (Or.inl h4))))
    · refine Or.inr (Or.inr (Or.inr (Or.inr (Or.inr ⟨h.1, h.2.1, h.2.2.1, h.2.2.2.1, h4, ?_⟩))))
      have e4 : w.toInt ≠ 4 := fun q => h4 (Int32.toInt_inj.mp q)
      have := h.2.2.2.2; omega

set_option maxHeartbeats 4000000 in
set_option maxRecDepth 100000 in
theorem c_copy_b (l : Launch) (G : GG) (C : CS) (M : MS) (h12 : zn G ≤ 12) {x : Int32} (hbx : badT (zn G) x) : Ct l G yX4_copy cX4_copy 3 (some .int) 6 133 [.ref (zad G 0 0), .int x] C M (some (.int (-1))) C M := by
  refine Ct_i (by decide) (Nat.le_of_ble_eq_true rfl) (fun {p e s m args below meth c A Q ls} hC hW hl hE => ?_)
  have hx := hC.1
  have hb := hC.2.1
  have hl : lv_has ls 3 [(0, .ref (zad G 0 0)), (1, .int x)] := hl
  refine lv_aload_n hx hb dX4_copy_0 rfl (lv_at hl 0 rfl) ?_
  refine lv_iload_n hx hb dX4_copy_1 rfl (lv_at hl 1 rfl) ?_
  refine z_callV (As := [.int x]) (rest := []) (st1 := [.null]) hC hW LL_0 rfl rfl rfl (c_X4_findTape_n l G C M h12 (x := x) hbx) mw_X4_findTape mv_X4_findTape mM_X4_62 ⟨Nat.le_of_ble_eq_true rfl, Nat.le_of_ble_eq_true rfl⟩ rfl rfl hl.1 (lv_room (Nat.le_of_ble_eq_true rfl)) dX4_copy_2 rfl (fun H locs hW => ?_) ⟨Nat.zero_le _, Nat.zero_le _⟩
  refine lv_astore_nN (lv' := [(2, .null), (0, .ref (zad G 0 0)), (1, .int x)]) hx hb dX4_copy_5 rfl hl (by decide) rfl (fun ls hl => ?_)
  refine lv_aload_nN hx hb dX4_copy_6 rfl (lv_at hl 0 rfl) ?_
  refine lv_ifnonnullN hx hb dX4_copy_7 ?_
  refine lv_iconst (v := (-1)) hx hb dX4_copy_10 (by decide) ?_
  have qr : ((-1) : Int32) = -1 := by simp [bI, cF_sF, cN_sN, cB_sB, cM_sM, cN_sF, cB_sF, cM_sF, cF_sN, cB_sN, cM_sN, cF_sB, cN_sB, cM_sB, cF_sM, cN_sM, cB_sM, mF_smF, mA_smF, mF_smA, mA_smA]
  exact hE hW qr dX4_copy_11

set_option maxHeartbeats 4000000 in
set_option maxRecDepth 100000 in
theorem c_copy_0 (l : Launch) (G : GG) (C : CS) (M : MS) (h12 : zn G ≤ 12) {t : Nat} (ht : t < zn G) (he0 : cN C 5 12 3 = 0) : Ct l G yX4_copy cX4_copy 3 (some .int) 6 133 [.ref (zad G 0 0), .int (nI t)] C M (some (.int (-2))) C M := by
  refine Ct_i (by decide) (Nat.le_of_ble_eq_true rfl) (fun {p e s m args below meth c A Q ls} hC hW hl hE => ?_)
  have hx := hC.1
  have hb := hC.2.1
  have hl : lv_has ls 3 [(0, .ref (zad G 0 0)), (1, .int (nI t))] := hl
  have h0 : cN C 5 12 3 < 2 ^ 31 := by omega
  refine lv_aload_n hx hb dX4_copy_0 rfl (lv_at hl 0 rfl) ?_
  refine lv_iload_n hx hb dX4_copy_1 rfl (lv_at hl 1 rfl) ?_
  refine z_callV (As := [.int (nI t)]) (rest := []) (st1 := [.ref (zad G 9 t)]) hC hW LL_0 rfl rfl rfl (c_X4_findTape l G C M h12 (t := t) ht) mw_X4_findTape mv_X4_findTape mM_X4_62 ⟨Nat.le_of_ble_eq_true rfl, Nat.le_of_ble_eq_true rfl⟩ rfl rfl hl.1 (lv_room (Nat.le_of_ble_eq_true rfl)) dX4_copy_2 rfl (fun H locs hW => ?_) ⟨Nat.zero_le _, Nat.zero_le _⟩
  refine lv_astore_n (lv' := [(2, .ref (zad G 9 t)), (0, .ref (zad G 0 0)), (1, .int (nI t))]) hx hb dX4_copy_5 rfl hl (by decide) rfl (fun ls hl => ?_)
  refine lv_aload_n hx hb dX4_copy_6 rfl (lv_at hl 0 rfl) ?_
  refine lv_ifnonnull (tgt := 12) hx hb dX4_copy_7 (by decide) ?_
  refine lv_aload_n hx hb dX4_copy_12 rfl (lv_at hl 1 rfl) ?_
  refine g0 (k := 3) (v := .ref (zad G 5 12)) hC hW (by decide) mF_X4_36 rfl dX4_copy_13 ?_
  refine g5 (k := 3) (v := .int (nI (cN C 5 12 3))) hC hW (Or.inr rfl) (by decide) mF_X4_66 rfl dX4_copy_16 ?_
  refine zf_ne (i := cN C 5 12 3) (tgt := 25) hx hb rfl (by omega) dX4_copy_19 (by decide) (fun h19 => ?_) (fun h19 => ?_)
  · exact absurd he0 h19
  · refine lv_bipush (v := (-2)) hx hb dX4_copy_22 (by decide) ?_
    have qr : ((-2) : Int32) = -2 := by simp [bI, h19, cF_sF, cN_sN, cB_sB, cM_sM, cN_sF, cB_sF, cM_sF, cF_sN, cB_sN, cM_sN, cF_sB, cN_sB, cM_sB, cF_sM, cN_sM, cB_sM, mF_smF, mA_smF, mF_smA, mA_smA]
    exact hE hW qr dX4_copy_24

set_option maxHeartbeats 4000000 in
set_option maxRecDepth 100000 in
theorem c_copy_1 (l : Launch) (G : GG) (C : CS) (M : MS) (h12 : zn G ≤ 12) {t : Nat} (ht : t < zn G) (hI : Iv C) (hT : ∀ d t, cM C d = some t → t < zn G) (hs : 0 < cN C 5 12 3) : Ct l G yX4_copy cX4_copy 3 (some .int) 6 133 [.ref (zad G 0 0), .int (nI t)] C M (some (.int ((copC C t).1))) (couC (copC C t).2 (copC C t).1) M := by
  refine Ct_i (by decide) (Nat.le_of_ble_eq_true rfl) (fun {p e s m args below meth c A Q ls} hC hW hl hE => ?_)
  have hx := hC.1
  have hb := hC.2.1
  have hl : lv_has ls 3 [(0, .ref (zad G 0 0)), (1, .int (nI t))] := hl
  have hc12 := hI.1 12
  have hcc := cap_12
  refine lv_aload_n hx hb dX4_copy_0 rfl (lv_at hl 0 rfl) ?_
  refine lv_iload_n hx hb dX4_copy_1 rfl (lv_at hl 1 rfl) ?_
  refine z_callV (As := [.int (nI t)]) (rest := []) (st1 := [.ref (zad G 9 t)]) hC hW LL_0 rfl rfl rfl (c_X4_findTape l G C M h12 (t := t) ht) mw_X4_findTape mv_X4_findTape mM_X4_62 ⟨Nat.le_of_ble_eq_true rfl, Nat.le_of_ble_eq_true rfl⟩ rfl rfl hl.1 (lv_room (Nat.le_of_ble_eq_true rfl)) dX4_copy_2 rfl (fun H locs hW => ?_) ⟨Nat.zero_le _, Nat.zero_le _⟩
  refine lv_astore_n (lv' := [(2, .ref (zad G 9 t)), (0, .ref (zad G 0 0)), (1, .int (nI t))]) hx hb dX4_copy_5 rfl hl (by decide) rfl (fun ls hl => ?_)
  refine lv_aload_n hx hb dX4_copy_6 rfl (lv_at hl 0 rfl) ?_
  refine lv_ifnonnull (tgt := 12) hx hb dX4_copy_7 (by decide) ?_
  refine lv_aload_n hx hb dX4_copy_12 rfl (lv_at hl 1 rfl) ?_
  refine g0 (k := 3) (v := .ref (zad G 5 12)) hC hW (by decide) mF_X4_36 rfl dX4_copy_13 ?_
  refine g5 (k := 3) (v := .int (nI (cN C 5 12 3))) hC hW (Or.inr rfl) (by decide) mF_X4_66 rfl dX4_copy_16 ?_
  refine zf_ne (i := cN C 5 12 3) (tgt := 25) hx hb rfl (by omega) dX4_copy_19 (by decide) (fun h19 => ?_) (fun h19 => ?_)
  · refine lv_aload_n hx hb dX4_copy_25 rfl (lv_at hl 1 rfl) ?_
    refine lv_aload_n hx hb dX4_copy_26 rfl (lv_at hl 1 rfl) ?_
    refine lv_aload_n hx hb dX4_copy_27 rfl (lv_at hl 0 rfl) ?_
    refine z_callV (As := [.ref (zad G 9 t)]) (rest := [.ref (zad G 0 0)]) (st1 := [.int ((copC C t).1), .ref (zad G 0 0)]) hC hW LL_0 rfl rfl rfl (c_X4_copyJob l G C M h12 ht hI hT hs) mw_X4_copyJob mv_X4_copyJob mM_X4_69 ⟨Nat.le_of_ble_eq_true rfl, Nat.le_of_ble_eq_true rfl⟩ rfl rfl hl.1 (lv_room (Nat.le_of_ble_eq_true rfl)) dX4_copy_28 rfl (fun H locs hW => ?_) ⟨Nat.zero_le _, Nat.zero_le _⟩
    obtain ⟨C1, eC1⟩ : ∃ z, z = (copC C t).2 := ⟨_, rfl⟩
    rw [← eC1] at hW
    refine z_callV (As := [.int ((copC C t).1)]) (rest := []) (st1 := [.int ((copC C t).1)]) hC hW LL_0 rfl rfl rfl (c_X4_counted l G C1 M ((copC C t).1)) mw_X4_counted mv_X4_counted mM_X4_73 ⟨Nat.le_of_ble_eq_true rfl, Nat.le_of_ble_eq_true rfl⟩ rfl rfl hl.1 (lv_room (Nat.le_of_ble_eq_true rfl)) dX4_copy_31 rfl (fun H locs hW => ?_) ⟨Nat.zero_le _, Nat.zero_le _⟩
    obtain ⟨C2, eC2⟩ : ∃ z, z = couC C1 ((copC C t).1) := ⟨_, rfl⟩
    rw [← eC2] at hW
    rw [eC2, eC1] at hW
    exact hE hW rfl dX4_copy_34
  · exact absurd h19 (by omega)

theorem c_X4_copy (l : Launch) (G : GG) (C : CS) (M : MS) (h12 : zn G ≤ 12) (hI : Iv C) (hT : ∀ d t, cM C d = some t → t < zn G) (x : Int32) : Ct l G yX4_copy cX4_copy 3 (some .int) 6 133 [.ref (zad G 0 0), .int x] C M (some (.int (copT (zn G) C x).1)) (copT (zn G) C x).2 M := by
  unfold copT
  rcases tape_cases h12 x with hb | ⟨t, ht, rfl, hb, htx⟩
  · rw [if_pos hb]; exact c_copy_b l G C M h12 hb
  · rw [if_neg hb, htx]
    by_cases he : cN C 5 12 3 = 0
    · rw [if_pos he]; exact c_copy_0 l G C M h12 ht he
    · rw [if_neg he]; exact c_copy_1 l G C M h12 ht hI hT (by omega)

set_option maxHeartbeats 4000000 in
set_option maxRecDepth 100000 in
theorem c_read_b (l : Launch) (G : GG) (C : CS) (M : MS) (h12 : zn G ≤ 12) {x y : Int32} (hby : badT (zn G) y) : Ct l G yX4_read cX4_read 5 (some .int) 5 113 [.ref (zad G 0 0), .int x, .int y] C M (some (.int (-1))) C M := by
  refine Ct_i (by decide) (Nat.le_of_ble_eq_true rfl) (fun {p e s m args below meth c A Q ls} hC hW hl hE => ?_)
  have hx := hC.1
  have hb := hC.2.1
  have hl : lv_has ls 5 [(0, .ref (zad G 0 0)), (1, .int x), (2, .int y)] := hl
  refine lv_aload_n hx hb dX4_read_0 rfl (lv_at hl 0 rfl) ?_
  refine lv_iload_n hx hb dX4_read_1 rfl (lv_at hl 2 rfl) ?_
  refine z_callV (As := [.int y]) (rest := []) (st1 := [.null]) hC hW LL_0 rfl rfl rfl (c_X4_findTape_n l G C M h12 (x := y) hby) mw_X4_findTape mv_X4_findTape mM_X4_62 ⟨Nat.le_of_ble_eq_true rfl, Nat.le_of_ble_eq_true rfl⟩ rfl rfl hl.1 (lv_room (Nat.le_of_ble_eq_true rfl)) dX4_read_2 rfl (fun H locs hW => ?_) ⟨Nat.zero_le _, Nat.zero_le _⟩
  refine lv_astore_nN (lv' := [(3, .null), (0, .ref (zad G 0 0)), (1, .int x), (2, .int y)]) hx hb dX4_read_5 rfl hl (by decide) rfl (fun ls hl => ?_)
  refine lv_iload_n hx hb dX4_read_6 rfl (lv_at hl 2 rfl) ?_
  refine z_callS (rest := []) (st1 := [.int (bI (nameP x))]) hC hW (c_X4_isName l G C M x) mw_X4_isName mT_X4_isName mM_X4_52 ⟨Nat.le_of_ble_eq_true rfl, Nat.le_of_ble_eq_true rfl⟩ rfl rfl hl.1 (lv_room (Nat.le_of_ble_eq_true rfl)) dX4_read_7 rfl (fun H locs hW => ?_) ⟨Nat.zero_le _, Nat.zero_le _⟩
  refine zb_eq (tgt := 17) hx hb (nameP x) rfl dX4_read_10 (by decide) (fun h10 => ?_) (fun h10 => ?_)
  · refine lv_iconst (v := (-1)) hx hb dX4_read_17 (by decide) ?_
    have qr : ((-1) : Int32) = -1 := by simp [bI, h10, cF_sF, cN_sN, cB_sB, cM_sM, cN_sF, cB_sF, cM_sF, cF_sN, cB_sN, cM_sN, cF_sB, cN_sB, cM_sB, cF_sM, cN_sM, cB_sM, mF_smF, mA_smF, mF_smA, mA_smA]
    exact hE hW qr dX4_read_18
  · refine lv_aload_nN hx hb dX4_read_13 rfl (lv_at hl 0 rfl) ?_
    refine lv_ifnonnullN hx hb dX4_read_14 ?_
    refine lv_iconst (v := (-1)) hx hb dX4_read_17 (by decide) ?_
    have qr : ((-1) : Int32) = -1 := by simp [bI, h10, cF_sF, cN_sN, cB_sB, cM_sM, cN_sF, cB_sF, cM_sF, cF_sN, cB_sN, cM_sN, cF_sB, cN_sB, cM_sB, cF_sM, cN_sM, cB_sM, mF_smF, mA_smF, mF_smA, mA_smA]
    exact hE hW qr dX4_read_18

set_option maxHeartbeats 4000000 in
set_option maxRecDepth 100000 in
theorem c_read_n (l : Launch) (G : GG) (C : CS) (M : MS) (h12 : zn G ≤ 12) {x : Int32} {t : Nat} (ht : t < zn G) (hn : ¬ nameP x) : Ct l G yX4_read cX4_read 5 (some .int) 5 113 [.ref (zad G 0 0), .int x, .int (nI t)] C M (some (.int (-1))) C M := by
  refine Ct_i (by decide) (Nat.le_of_ble_eq_true rfl) (fun {p e s m args below meth c A Q ls} hC hW hl hE => ?_)
  have hx := hC.1
  have hb := hC.2.1
  have hl : lv_has ls 5 [(0, .ref (zad G 0 0)), (1, .int x), (2, .int (nI t))] := hl
  refine lv_aload_n hx hb dX4_read_0 rfl (lv_at hl 0 rfl) ?_
  refine lv_iload_n hx hb dX4_read_1 rfl (lv_at hl 2 rfl) ?_
  refine z_callV (As := [.int (nI t)]) (rest := []) (st1 := [.ref (zad G 9 t)]) hC hW LL_0 rfl rfl rfl (c_X4_findTape l G C M h12 (t := t) ht) mw_X4_findTape mv_X4_findTape mM_X4_62 ⟨Nat.le_of_ble_eq_true rfl, Nat.le_of_ble_eq_true rfl⟩ rfl rfl hl.1 (lv_room (Nat.le_of_ble_eq_true rfl)) dX4_read_2 rfl (fun H locs hW => ?_) ⟨Nat.zero_le _, Nat.zero_le _⟩
  refine lv_astore_n (lv' := [(3, .ref (zad G 9 t)), (0, .ref (zad G 0 0)), (1, .int x), (2, .int (nI t))]) hx hb dX4_read_5 rfl hl (by decide) rfl (fun ls hl => ?_)
  refine lv_iload_n hx hb dX4_read_6 rfl (lv_at hl 2 rfl) ?_
  refine z_callS (rest := []) (st1 := [.int (bI (nameP x))]) hC hW (c_X4_isName l G C M x) mw_X4_isName mT_X4_isName mM_X4_52 ⟨Nat.le_of_ble_eq_true rfl, Nat.le_of_ble_eq_true rfl⟩ rfl rfl hl.1 (lv_room (Nat.le_of_ble_eq_true rfl)) dX4_read_7 rfl (fun H locs hW => ?_) ⟨Nat.zero_le _, Nat.zero_le _⟩
  refine zb_eq (tgt := 17) hx hb (nameP x) rfl dX4_read_10 (by decide) (fun h10 => ?_) (fun h10 => ?_)
  · refine lv_iconst (v := (-1)) hx hb dX4_read_17 (by decide) ?_
    have qr : ((-1) : Int32) = -1 := by simp [bI, h10, cF_sF, cN_sN, cB_sB, cM_sM, cN_sF, cB_sF, cM_sF, cF_sN, cB_sN, cM_sN, cF_sB, cN_sB, cM_sB, cF_sM, cN_sM, cB_sM, mF_smF, mA_smF, mF_smA, mA_smA]
    exact hE hW qr dX4_read_18
  · exact absurd h10 hn

set_option maxHeartbeats 4000000 in
set_option maxRecDepth 100000 in
theorem c_read_0 (l : Launch) (G : GG) (C : CS) (M : MS) (h12 : zn G ≤ 12) {x : Int32} {t : Nat} (ht : t < zn G) (hn : nameP x) (hI : Iv C) (hlh : lh C t x = none) : Ct l G yX4_read cX4_read 5 (some .int) 5 113 [.ref (zad G 0 0), .int x, .int (nI t)] C M (some (.int (-2))) C M := by
  refine Ct_i (by decide) (Nat.le_of_ble_eq_true rfl) (fun {p e s m args below meth c A Q ls} hC hW hl hE => ?_)
  have hx := hC.1
  have hb := hC.2.1
  have hl : lv_has ls 5 [(0, .ref (zad G 0 0)), (1, .int x), (2, .int (nI t))] := hl
  refine lv_aload_n hx hb dX4_read_0 rfl (lv_at hl 0 rfl) ?_
  refine lv_iload_n hx hb dX4_read_1 rfl (lv_at hl 2 rfl) ?_
  refine z_callV (As := [.int (nI t)]) (rest := []) (st1 := [.ref (zad G 9 t)]) hC hW LL_0 rfl rfl rfl (c_X4_findTape l G C M h12 (t := t) ht) mw_X4_findTape mv_X4_findTape mM_X4_62 ⟨Nat.le_of_ble_eq_true rfl, Nat.le_of_ble_eq_true rfl⟩ rfl rfl hl.1 (lv_room (Nat.le_of_ble_eq_true rfl)) dX4_read_2 rfl (fun H locs hW => ?_) ⟨Nat.zero_le _, Nat.zero_le _⟩
  refine lv_astore_n (lv' := [(3, .ref (zad G 9 t)), (0, .ref (zad G 0 0)), (1, .int x), (2, .int (nI t))]) hx hb dX4_read_5 rfl hl (by decide) rfl (fun ls hl => ?_)
  refine lv_iload_n hx hb dX4_read_6 rfl (lv_at hl 2 rfl) ?_
  refine z_callS (rest := []) (st1 := [.int (bI (nameP x))]) hC hW (c_X4_isName l G C M x) mw_X4_isName mT_X4_isName mM_X4_52 ⟨Nat.le_of_ble_eq_true rfl, Nat.le_of_ble_eq_true rfl⟩ rfl rfl hl.1 (lv_room (Nat.le_of_ble_eq_true rfl)) dX4_read_7 rfl (fun H locs hW => ?_) ⟨Nat.zero_le _, Nat.zero_le _⟩
  refine zb_eq (tgt := 17) hx hb (nameP x) rfl dX4_read_10 (by decide) (fun h10 => ?_) (fun h10 => ?_)
  · exact absurd hn h10
  · refine lv_aload_n hx hb dX4_read_13 rfl (lv_at hl 0 rfl) ?_
    refine lv_ifnonnull (tgt := 19) hx hb dX4_read_14 (by decide) ?_
    refine lv_aload_n hx hb dX4_read_19 rfl (lv_at hl 0 rfl) ?_
    refine lv_iload_n hx hb dX4_read_20 rfl (lv_at hl 2 rfl) ?_
    refine z_callV (As := [.int x]) (rest := []) (st1 := [.int (oI (lh C t x))]) hC hW (LL_9 ht) rfl rfl rfl (c_X3_listedHead l G C M ht hI x) mw_X3_listedHead mv_X3_listedHead mM_X4_77 ⟨Nat.le_of_ble_eq_true rfl, Nat.le_of_ble_eq_true rfl⟩ rfl rfl hl.1 (lv_room (Nat.le_of_ble_eq_true rfl)) dX4_read_21 rfl (fun H locs hW => ?_) ⟨Nat.zero_le _, Nat.zero_le _⟩
    refine z_top (y := -2) (by rw [hlh]; rfl) ?_
    refine lv_istore (lv' := [(4, .int (-2)), (3, .ref (zad G 9 t)), (0, .ref (zad G 0 0)), (1, .int x), (2, .int (nI t))]) hx hb dX4_read_24 hl (by decide) rfl (fun ls hl => ?_)
    refine lv_iload hx hb dX4_read_26 (lv_at hl 0 rfl) ?_
    refine lv_bipush (v := (-2)) hx hb dX4_read_28 (by decide) ?_
    refine lv_icmp_ne (tgt := 36) hx hb dX4_read_30 (by decide) (fun h30 => ?_) (fun h30 => ?_)
    · exact absurd rfl h30
    · refine lv_bipush (v := (-2)) hx hb dX4_read_33 (by decide) ?_
      have qr : ((-2) : Int32) = -2 := by simp [bI, h10, h30, cF_sF, cN_sN, cB_sB, cM_sM, cN_sF, cB_sF, cM_sF, cF_sN, cB_sN, cM_sN, cF_sB, cN_sB, cM_sB, cF_sM, cN_sM, cB_sM, mF_smF, mA_smF, mF_smA, mA_smA]
      exact hE hW qr dX4_read_35

set_option maxHeartbeats 4000000 in
set_option maxRecDepth 100000 in
theorem c_read_1 (l : Launch) (G : GG) (C : CS) (M : MS) (h12 : zn G ≤ 12) {x : Int32} {t : Nat} (ht : t < zn G) (hn : nameP x) (hI : Iv C) (hT : ∀ d t, cM C d = some t → t < zn G) {h : Nat} (hlh : lh C t x = some h) : Ct l G yX4_read cX4_read 5 (some .int) 5 113 [.ref (zad G 0 0), .int x, .int (nI t)] C M (some (.int ((rjC C t h).1))) (couC (rjC C t h).2 (rjC C t h).1) M := by
  refine Ct_i (by decide) (Nat.le_of_ble_eq_true rfl) (fun {p e s m args below meth c A Q ls} hC hW hl hE => ?_)
  have hx := hC.1
  have hb := hC.2.1
  have hl : lv_has ls 5 [(0, .ref (zad G 0 0)), (1, .int x), (2, .int (nI t))] := hl
  have hh : h < 100 := by have := lh_lt hlh; have := hI.1 t; have := cap_le t; omega
  refine lv_aload_n hx hb dX4_read_0 rfl (lv_at hl 0 rfl) ?_
  refine lv_iload_n hx hb dX4_read_1 rfl (lv_at hl 2 rfl) ?_
  refine z_callV (As := [.int (nI t)]) (rest := []) (st1 := [.ref (zad G 9 t)]) hC hW LL_0 rfl rfl rfl (c_X4_findTape l G C M h12 (t := t) ht) mw_X4_findTape mv_X4_findTape mM_X4_62 ⟨Nat.le_of_ble_eq_true rfl, Nat.le_of_ble_eq_true rfl⟩ rfl rfl hl.1 (lv_room (Nat.le_of_ble_eq_true rfl)) dX4_read_2 rfl (fun H locs hW => ?_) ⟨Nat.zero_le _, Nat.zero_le _⟩
  refine lv_astore_n (lv' := [(3, .ref (zad G 9 t)), (0, .ref (zad G 0 0)), (1, .int x), (2, .int (nI t))]) hx hb dX4_read_5 rfl hl (by decide) rfl (fun ls hl => ?_)
  refine lv_iload_n hx hb dX4_read_6 rfl (lv_at hl 2 rfl) ?_
  refine z_callS (rest := []) (st1 := [.int (bI (nameP x))]) hC hW (c_X4_isName l G C M x) mw_X4_isName mT_X4_isName mM_X4_52 ⟨Nat.le_of_ble_eq_true rfl, Nat.le_of_ble_eq_true rfl⟩ rfl rfl hl.1 (lv_room (Nat.le_of_ble_eq_true rfl)) dX4_read_7 rfl (fun H locs hW => ?_) ⟨Nat.zero_le _, Nat.zero_le _⟩
  refine zb_eq (tgt := 17) hx hb (nameP x) rfl dX4_read_10 (by decide) (fun h10 => ?_) (fun h10 => ?_)
  · exact absurd hn h10
  · refine lv_aload_n hx hb dX4_read_13 rfl (lv_at hl 0 rfl) ?_
    refine lv_ifnonnull (tgt := 19) hx hb dX4_read_14 (by decide) ?_
    refine lv_aload_n hx hb dX4_read_19 rfl (lv_at hl 0 rfl) ?_
    refine lv_iload_n hx hb dX4_read_20 rfl (lv_at hl 2 rfl) ?_
    refine z_callV (As := [.int x]) (rest := []) (st1 := [.int (oI (lh C t x))]) hC hW (LL_9 ht) rfl rfl rfl (c_X3_listedHead l G C M ht hI x) mw_X3_listedHead mv_X3_listedHead mM_X4_77 ⟨Nat.le_of_ble_eq_true rfl, Nat.le_of_ble_eq_true rfl⟩ rfl rfl hl.1 (lv_room (Nat.le_of_ble_eq_true rfl)) dX4_read_21 rfl (fun H locs hW => ?_) ⟨Nat.zero_le _, Nat.zero_le _⟩
    refine z_top (y := nI h) (by rw [hlh]; rfl) ?_
    refine lv_istore (lv' := [(4, .int (nI h)), (3, .ref (zad G 9 t)), (0, .ref (zad G 0 0)), (1, .int x), (2, .int (nI t))]) hx hb dX4_read_24 hl (by decide) rfl (fun ls hl => ?_)
    refine lv_iload hx hb dX4_read_26 (lv_at hl 0 rfl) ?_
    refine lv_bipush (v := (-2)) hx hb dX4_read_28 (by decide) ?_
    refine lv_icmp_ne (tgt := 36) hx hb dX4_read_30 (by decide) (fun h30 => ?_) (fun h30 => ?_)
    · refine lv_aload_n hx hb dX4_read_36 rfl (lv_at hl 2 rfl) ?_
      refine lv_aload_n hx hb dX4_read_37 rfl (lv_at hl 2 rfl) ?_
      refine lv_aload_n hx hb dX4_read_38 rfl (lv_at hl 1 rfl) ?_
      refine lv_iload hx hb dX4_read_39 (lv_at hl 0 rfl) ?_
      refine z_callV (As := [.ref (zad G 9 t), .int (nI h)]) (rest := [.ref (zad G 0 0)]) (st1 := [.int ((rjC C t h).1), .ref (zad G 0 0)]) hC hW LL_0 rfl rfl rfl (c_X4_readJob l G C M ht hI hT h12 (h := h) hh) mw_X4_readJob mv_X4_readJob mM_X4_80 ⟨Nat.le_of_ble_eq_true rfl, Nat.le_of_ble_eq_true rfl⟩ rfl rfl hl.1 (lv_room (Nat.le_of_ble_eq_true rfl)) dX4_read_41 rfl (fun H locs hW => ?_) ⟨Nat.zero_le _, Nat.zero_le _⟩
      obtain ⟨C1, eC1⟩ : ∃ z, z = (rjC C t h).2 := ⟨_, rfl⟩
      rw [← eC1] at hW
      refine z_callV (As := [.int ((rjC C t h).1)]) (rest := []) (st1 := [.int ((rjC C t h).1)]) hC hW LL_0 rfl rfl rfl (c_X4_counted l G C1 M ((rjC C t h).1)) mw_X4_counted mv_X4_counted mM_X4_73 ⟨Nat.le_of_ble_eq_true rfl, Nat.le_of_ble_eq_true rfl⟩ rfl rfl hl.1 (lv_room (Nat.le_of_ble_eq_true rfl)) dX4_read_44 rfl (fun H locs hW => ?_) ⟨Nat.zero_le _, Nat.zero_le _⟩
      obtain ⟨C2, eC2⟩ : ∃ z, z = couC C1 ((rjC C t h).1) := ⟨_, rfl⟩
      rw [← eC2] at hW
      rw [eC2, eC1] at hW
      exact hE hW rfl dX4_read_47
    · exact absurd h30 (nI_m2 h hh)

theorem c_X4_read (l : Launch) (G : GG) (C : CS) (M : MS) (h12 : zn G ≤ 12) (hI : Iv C) (hT : ∀ d t, cM C d = some t → t < zn G) (x y : Int32) : Ct l G yX4_read cX4_read 5 (some .int) 5 113 [.ref (zad G 0 0), .int x, .int y] C M (some (.int (reaT (zn G) C x y).1)) (reaT (zn G) C x y).2 M := by
  unfold reaT
  rcases tape_cases h12 y with hb | ⟨t, ht, rfl, hb, htx⟩
  · rw [if_pos hb]; exact c_read_b l G C M h12 hb
  · rw [if_neg hb, htx]
    by_cases hn : nameP x
    · rw [if_pos hn]
      cases hlh : lh C t x with
      | none => exact c_read_0 l G C M h12 ht hn hI hlh
      | some h => exact c_read_1 l G C M h12 ht hn hI hT hlh
    · rw [if_neg hn]; exact c_read_n l G C M h12 ht hn

set_option maxHeartbeats 4000000 in
set_option maxRecDepth 100000 in
theorem c_move_bb (l : Launch) (G : GG) (C : CS) (M : MS) (h12 : zn G ≤ 12) {x y z : Int32} (hby : badT (zn G) y) (hbz : badT (zn G) z) : Ct l G yX4_move cX4_move 7 (some .int) 7 165 [.ref (zad G 0 0), .int x, .int y, .int z] C M (some (.int (-1))) C M := by
  refine Ct_i (by decide) (Nat.le_of_ble_eq_true rfl) (fun {p e s m args below meth c A Q ls} hC hW hl hE => ?_)
  have hx := hC.1
  have hb := hC.2.1
  have hl : lv_has ls 7 [(0, .ref (zad G 0 0)), (1, .int x), (2, .int y), (3, .int z)] := hl
  refine lv_aload_n hx hb dX4_move_0 rfl (lv_at hl 0 rfl) ?_
  refine lv_iload_n hx hb dX4_move_1 rfl (lv_at hl 2 rfl) ?_
  refine z_callV (As := [.int y]) (rest := []) (st1 := [.null]) hC hW LL_0 rfl rfl rfl (c_X4_findTape_n l G C M h12 (x := y) hby) mw_X4_findTape mv_X4_findTape mM_X4_62 ⟨Nat.le_of_ble_eq_true rfl, Nat.le_of_ble_eq_true rfl⟩ rfl rfl hl.1 (lv_room (Nat.le_of_ble_eq_true rfl)) dX4_move_2 rfl (fun H locs hW => ?_) ⟨Nat.zero_le _, Nat.zero_le _⟩
  refine lv_astoreN (lv' := [(4, .null), (0, .ref (zad G 0 0)), (1, .int x), (2, .int y), (3, .int z)]) hx hb dX4_move_5 hl (by decide) rfl (fun ls hl => ?_)
  refine lv_aload_n hx hb dX4_move_7 rfl (lv_at hl 1 rfl) ?_
  refine lv_iload_n hx hb dX4_move_8 rfl (lv_at hl 4 rfl) ?_
  refine z_callV (As := [.int z]) (rest := []) (st1 := [.null]) hC hW LL_0 rfl rfl rfl (c_X4_findTape_n l G C M h12 (x := z) hbz) mw_X4_findTape mv_X4_findTape mM_X4_62 ⟨Nat.le_of_ble_eq_true rfl, Nat.le_of_ble_eq_true rfl⟩ rfl rfl hl.1 (lv_room (Nat.le_of_ble_eq_true rfl)) dX4_move_9 rfl (fun H locs hW => ?_) ⟨Nat.zero_le _, Nat.zero_le _⟩
  refine lv_astoreN (lv' := [(5, .null), (4, .null), (0, .ref (zad G 0 0)), (1, .int x), (2, .int y), (3, .int z)]) hx hb dX4_move_12 hl (by decide) rfl (fun ls hl => ?_)
  refine lv_iload_n hx hb dX4_move_14 rfl (lv_at hl 3 rfl) ?_
  refine z_callS (rest := []) (st1 := [.int (bI (nameP x))]) hC hW (c_X4_isName l G C M x) mw_X4_isName mT_X4_isName mM_X4_52 ⟨Nat.le_of_ble_eq_true rfl, Nat.le_of_ble_eq_true rfl⟩ rfl rfl hl.1 (lv_room (Nat.le_of_ble_eq_true rfl)) dX4_move_15 rfl (fun H locs hW => ?_) ⟨Nat.zero_le _, Nat.zero_le _⟩
  refine zb_eq (tgt := 36) hx hb (nameP x) rfl dX4_move_18 (by decide) (fun h18 => ?_) (fun h18 => ?_)
  · refine lv_iconst (v := (-1)) hx hb dX4_move_36 (by decide) ?_
    have qr : ((-1) : Int32) = -1 := by simp [bI, h18, cF_sF, cN_sN, cB_sB, cM_sM, cN_sF, cB_sF, cM_sF, cF_sN, cB_sN, cM_sN, cF_sB, cN_sB, cM_sB, cF_sM, cN_sM, cB_sM, mF_smF, mA_smF, mF_smA, mA_smA]
    exact hE hW qr dX4_move_37
  · refine lv_aloadN hx hb dX4_move_21 (lv_at hl 1 rfl) ?_
    refine lv_ifnullN (tgt := 36) hx hb dX4_move_23 (by decide) ?_
    refine lv_iconst (v := (-1)) hx hb dX4_move_36 (by decide) ?_
    have qr : ((-1) : Int32) = -1 := by simp [bI, h18, cF_sF, cN_sN, cB_sB, cM_sM, cN_sF, cB_sF, cM_sF, cF_sN, cB_sN, cM_sN, cF_sB, cN_sB, cM_sB, cF_sM, cN_sM, cB_sM, mF_smF, mA_smF, mF_smA, mA_smA]
    exact hE hW qr dX4_move_37

set_option maxHeartbeats 4000000 in
set_option maxRecDepth 100000 in
theorem c_move_bo (l : Launch) (G : GG) (C : CS) (M : MS) (h12 : zn G ≤ 12) {x y : Int32} (hby : badT (zn G) y) {t : Nat} (ht : t < zn G) : Ct l G yX4_move cX4_move 7 (some .int) 7 165 [.ref (zad G 0 0), .int x, .int y, .int (nI t)] C M (some (.int (-1))) C M := by
  refine Ct_i (by decide) (Nat.le_of_ble_eq_true rfl) (fun {p e s m args below meth c A Q ls} hC hW hl hE => ?_)
  have hx := hC.1
  have hb := hC.2.1
  have hl : lv_has ls 7 [(0, .ref (zad G 0 0)), (1, .int x), (2, .int y), (3, .int (nI t))] := hl
  refine lv_aload_n hx hb dX4_move_0 rfl (lv_at hl 0 rfl) ?_
  refine lv_iload_n hx hb dX4_move_1 rfl (lv_at hl 2 rfl) ?_
  refine z_callV (As := [.int y]) (rest := []) (st1 := [.null]) hC hW LL_0 rfl rfl rfl (c_X4_findTape_n l G C M h12 (x := y) hby) mw_X4_findTape mv_X4_findTape mM_X4_62 ⟨Nat.le_of_ble_eq_true rfl, Nat.le_of_ble_eq_true rfl⟩ rfl rfl hl.1 (lv_room (Nat.le_of_ble_eq_true rfl)) dX4_move_2 rfl (fun H locs hW => ?_) ⟨Nat.zero_le _, Nat.zero_le _⟩
  refine lv_astoreN (lv' := [(4, .null), (0, .ref (zad G 0 0)), (1, .int x), (2, .int y), (3, .int (nI t))]) hx hb dX4_move_5 hl (by decide) rfl (fun ls hl => ?_)
  refine lv_aload_n hx hb dX4_move_7 rfl (lv_at hl 1 rfl) ?_
  refine lv_iload_n hx hb dX4_move_8 rfl (lv_at hl 4 rfl) ?_
  refine z_callV (As := [.int (nI t)]) (rest := []) (st1 := [.ref (zad G 9 t)]) hC hW LL_0 rfl rfl rfl (c_X4_findTape l G C M h12 (t := t) ht) mw_X4_findTape mv_X4_findTape mM_X4_62 ⟨Nat.le_of_ble_eq_true rfl, Nat.le_of_ble_eq_true rfl⟩ rfl rfl hl.1 (lv_room (Nat.le_of_ble_eq_true rfl)) dX4_move_9 rfl (fun H locs hW => ?_) ⟨Nat.zero_le _, Nat.zero_le _⟩
  refine lv_astore (lv' := [(5, .ref (zad G 9 t)), (4, .null), (0, .ref (zad G 0 0)), (1, .int x), (2, .int y), (3, .int (nI t))]) hx hb dX4_move_12 hl (by decide) rfl (fun ls hl => ?_)
  refine lv_iload_n hx hb dX4_move_14 rfl (lv_at hl 3 rfl) ?_
  refine z_callS (rest := []) (st1 := [.int (bI (nameP x))]) hC hW (c_X4_isName l G C M x) mw_X4_isName mT_X4_isName mM_X4_52 ⟨Nat.le_of_ble_eq_true rfl, Nat.le_of_ble_eq_true rfl⟩ rfl rfl hl.1 (lv_room (Nat.le_of_ble_eq_true rfl)) dX4_move_15 rfl (fun H locs hW => ?_) ⟨Nat.zero_le _, Nat.zero_le _⟩
  refine zb_eq (tgt := 36) hx hb (nameP x) rfl dX4_move_18 (by decide) (fun h18 => ?_) (fun h18 => ?_)
  · refine lv_iconst (v := (-1)) hx hb dX4_move_36 (by decide) ?_
    have qr : ((-1) : Int32) = -1 := by simp [bI, h18, cF_sF, cN_sN, cB_sB, cM_sM, cN_sF, cB_sF, cM_sF, cF_sN, cB_sN, cM_sN, cF_sB, cN_sB, cM_sB, cF_sM, cN_sM, cB_sM, mF_smF, mA_smF, mF_smA, mA_smA]
    exact hE hW qr dX4_move_37
  · refine lv_aloadN hx hb dX4_move_21 (lv_at hl 1 rfl) ?_
    refine lv_ifnullN (tgt := 36) hx hb dX4_move_23 (by decide) ?_
    refine lv_iconst (v := (-1)) hx hb dX4_move_36 (by decide) ?_
    have qr : ((-1) : Int32) = -1 := by simp [bI, h18, cF_sF, cN_sN, cB_sB, cM_sM, cN_sF, cB_sF, cM_sF, cF_sN, cB_sN, cM_sN, cF_sB, cN_sB, cM_sB, cF_sM, cN_sM, cB_sM, mF_smF, mA_smF, mF_smA, mA_smA]
    exact hE hW qr dX4_move_37

set_option maxHeartbeats 4000000 in
set_option maxRecDepth 100000 in
theorem c_move_ob (l : Launch) (G : GG) (C : CS) (M : MS) (h12 : zn G ≤ 12) {x z : Int32} {t : Nat} (ht : t < zn G) (hbz : badT (zn G) z) : Ct l G yX4_move cX4_move 7 (some .int) 7 165 [.ref (zad G 0 0), .int x, .int (nI t), .int z] C M (some (.int (-1))) C M := by
  refine Ct_i (by decide) (Nat.le_of_ble_eq_true rfl) (fun {p e s m args below meth c A Q ls} hC hW hl hE => ?_)
  have hx := hC.1
  have hb := hC.2.1
  have hl : lv_has ls 7 [(0, .ref (zad G 0 0)), (1, .int x), (2, .int (nI t)), (3, .int z)] := hl
  refine lv_aload_n hx hb dX4_move_0 rfl (lv_at hl 0 rfl) ?_
  refine lv_iload_n hx hb dX4_move_1 rfl (lv_at hl 2 rfl) ?_
  refine z_callV (As := [.int (nI t)]) (rest := []) (st1 := [.ref (zad G 9 t)]) hC hW LL_0 rfl rfl rfl (c_X4_findTape l G C M h12 (t := t) ht) mw_X4_findTape mv_X4_findTape mM_X4_62 ⟨Nat.le_of_ble_eq_true rfl, Nat.le_of_ble_eq_true rfl⟩ rfl rfl hl.1 (lv_room (Nat.le_of_ble_eq_true rfl)) dX4_move_2 rfl (fun H locs hW => ?_) ⟨Nat.zero_le _, Nat.zero_le _⟩
  refine lv_astore (lv' := [(4, .ref (zad G 9 t)), (0, .ref (zad G 0 0)), (1, .int x), (2, .int (nI t)), (3, .int z)]) hx hb dX4_move_5 hl (by decide) rfl (fun ls hl => ?_)
  refine lv_aload_n hx hb dX4_move_7 rfl (lv_at hl 1 rfl) ?_
  refine lv_iload_n hx hb dX4_move_8 rfl (lv_at hl 4 rfl) ?_
  refine z_callV (As := [.int z]) (rest := []) (st1 := [.null]) hC hW LL_0 rfl rfl rfl (c_X4_findTape_n l G C M h12 (x := z) hbz) mw_X4_findTape mv_X4_findTape mM_X4_62 ⟨Nat.le_of_ble_eq_true rfl, Nat.le_of_ble_eq_true rfl⟩ rfl rfl hl.1 (lv_room (Nat.le_of_ble_eq_true rfl)) dX4_move_9 rfl (fun H locs hW => ?_) ⟨Nat.zero_le _, Nat.zero_le _⟩
  refine lv_astoreN (lv' := [(5, .null), (4, .ref (zad G 9 t)), (0, .ref (zad G 0 0)), (1, .int x), (2, .int (nI t)), (3, .int z)]) hx hb dX4_move_12 hl (by decide) rfl (fun ls hl => ?_)
  refine lv_iload_n hx hb dX4_move_14 rfl (lv_at hl 3 rfl) ?_
  refine z_callS (rest := []) (st1 := [.int (bI (nameP x))]) hC hW (c_X4_isName l G C M x) mw_X4_isName mT_X4_isName mM_X4_52 ⟨Nat.le_of_ble_eq_true rfl, Nat.le_of_ble_eq_true rfl⟩ rfl rfl hl.1 (lv_room (Nat.le_of_ble_eq_true rfl)) dX4_move_15 rfl (fun H locs hW => ?_) ⟨Nat.zero_le _, Nat.zero_le _⟩
  refine zb_eq (tgt := 36) hx hb (nameP x) rfl dX4_move_18 (by decide) (fun h18 => ?_) (fun h18 => ?_)
  · refine lv_iconst (v := (-1)) hx hb dX4_move_36 (by decide) ?_
    have qr : ((-1) : Int32) = -1 := by simp [bI, h18, cF_sF, cN_sN, cB_sB, cM_sM, cN_sF, cB_sF, cM_sF, cF_sN, cB_sN, cM_sN, cF_sB, cN_sB, cM_sB, cF_sM, cN_sM, cB_sM, mF_smF, mA_smF, mF_smA, mA_smA]
    exact hE hW qr dX4_move_37
  · refine lv_aload hx hb dX4_move_21 (lv_at hl 1 rfl) ?_
    refine lv_ifnull hx hb dX4_move_23 ?_
    refine lv_aloadN hx hb dX4_move_26 (lv_at hl 0 rfl) ?_
    refine lv_ifnullN (tgt := 36) hx hb dX4_move_28 (by decide) ?_
    refine lv_iconst (v := (-1)) hx hb dX4_move_36 (by decide) ?_
    have qr : ((-1) : Int32) = -1 := by simp [bI, h18, cF_sF, cN_sN, cB_sB, cM_sM, cN_sF, cB_sF, cM_sF, cF_sN, cB_sN, cM_sN, cF_sB, cN_sB, cM_sB, cF_sM, cN_sM, cB_sM, mF_smF, mA_smF, mF_smA, mA_smA]
    exact hE hW qr dX4_move_37

set_option maxHeartbeats 4000000 in
set_option maxRecDepth 100000 in
theorem c_move_n (l : Launch) (G : GG) (C : CS) (M : MS) (h12 : zn G ≤ 12) {x : Int32} {t1 t2 : Nat} (ht1 : t1 < zn G) (ht2 : t2 < zn G) (hn : ¬ nameP x) : Ct l G yX4_move cX4_move 7 (some .int) 7 165 [.ref (zad G 0 0), .int x, .int (nI t1), .int (nI t2)] C M (some (.int (-1))) C M := by
  refine Ct_i (by decide) (Nat.le_of_ble_eq_true rfl) (fun {p e s m args below meth c A Q ls} hC hW hl hE => ?_)
  have hx := hC.1
  have hb := hC.2.1
  have hl : lv_has ls 7 [(0, .ref (zad G 0 0)), (1, .int x), (2, .int (nI t1)), (3, .int (nI t2))] := hl
  refine lv_aload_n hx hb dX4_move_0 rfl (lv_at hl 0 rfl) ?_
  refine lv_iload_n hx hb dX4_move_1 rfl (lv_at hl 2 rfl) ?_
  refine z_callV (As := [.int (nI t1)]) (rest := []) (st1 := [.ref (zad G 9 t1)]) hC hW LL_0 rfl rfl rfl (c_X4_findTape l G C M h12 (t := t1) ht1) mw_X4_findTape mv_X4_findTape mM_X4_62 ⟨Nat.le_of_ble_eq_true rfl, Nat.le_of_ble_eq_true rfl⟩ rfl rfl hl.1 (lv_room (Nat.le_of_ble_eq_true rfl)) dX4_move_2 rfl (fun H locs hW => ?_) ⟨Nat.zero_le _, Nat.zero_le _⟩
  refine lv_astore (lv' := [(4, .ref (zad G 9 t1)), (0, .ref (zad G 0 0)), (1, .int x), (2, .int (nI t1)), (3, .int (nI t2))]) hx hb dX4_move_5 hl (by decide) rfl (fun ls hl => ?_)
  refine lv_aload_n hx hb dX4_move_7 rfl (lv_at hl 1 rfl) ?_
  refine lv_iload_n hx hb dX4_move_8 rfl (lv_at hl 4 rfl) ?_
  refine z_callV (As := [.int (nI t2)]) (rest := []) (st1 := [.ref (zad G 9 t2)]) hC hW LL_0 rfl rfl rfl (c_X4_findTape l G C M h12 (t := t2) ht2) mw_X4_findTape mv_X4_findTape mM_X4_62 ⟨Nat.le_of_ble_eq_true rfl, Nat.le_of_ble_eq_true rfl⟩ rfl rfl hl.1 (lv_room (Nat.le_of_ble_eq_true rfl)) dX4_move_9 rfl (fun H locs hW => ?_) ⟨Nat.zero_le _, Nat.zero_le _⟩
  refine lv_astore (lv' := [(5, .ref (zad G 9 t2)), (4, .ref (zad G 9 t1)), (0, .ref (zad G 0 0)), (1, .int x), (2, .int (nI t1)), (3, .int (nI t2))]) hx hb dX4_move_12 hl (by decide) rfl (fun ls hl => ?_)
  refine lv_iload_n hx hb dX4_move_14 rfl (lv_at hl 3 rfl) ?_
  refine z_callS (rest := []) (st1 := [.int (bI (nameP x))]) hC hW (c_X4_isName l G C M x) mw_X4_isName mT_X4_isName mM_X4_52 ⟨Nat.le_of_ble_eq_true rfl, Nat.le_of_ble_eq_true rfl⟩ rfl rfl hl.1 (lv_room (Nat.le_of_ble_eq_true rfl)) dX4_move_15 rfl (fun H locs hW => ?_) ⟨Nat.zero_le _, Nat.zero_le _⟩
  refine zb_eq (tgt := 36) hx hb (nameP x) rfl dX4_move_18 (by decide) (fun h18 => ?_) (fun h18 => ?_)
  · refine lv_iconst (v := (-1)) hx hb dX4_move_36 (by decide) ?_
    have qr : ((-1) : Int32) = -1 := by simp [bI, h18, cF_sF, cN_sN, cB_sB, cM_sM, cN_sF, cB_sF, cM_sF, cF_sN, cB_sN, cM_sN, cF_sB, cN_sB, cM_sB, cF_sM, cN_sM, cB_sM, mF_smF, mA_smF, mF_smA, mA_smA]
    exact hE hW qr dX4_move_37
  · exact absurd h18 hn

set_option maxHeartbeats 4000000 in
set_option maxRecDepth 100000 in
theorem c_move_s (l : Launch) (G : GG) (C : CS) (M : MS) (h12 : zn G ≤ 12) {x : Int32} {t1 t2 : Nat} (ht1 : t1 < zn G) (ht2 : t2 < zn G) (hn : nameP x) (hs : t1 = t2) : Ct l G yX4_move cX4_move 7 (some .int) 7 165 [.ref (zad G 0 0), .int x, .int (nI t1), .int (nI t2)] C M (some (.int (-1))) C M := by
  refine Ct_i (by decide) (Nat.le_of_ble_eq_true rfl) (fun {p e s m args below meth c A Q ls} hC hW hl hE => ?_)
  have hx := hC.1
  have hb := hC.2.1
  have hl : lv_has ls 7 [(0, .ref (zad G 0 0)), (1, .int x), (2, .int (nI t1)), (3, .int (nI t2))] := hl
  refine lv_aload_n hx hb dX4_move_0 rfl (lv_at hl 0 rfl) ?_
  refine lv_iload_n hx hb dX4_move_1 rfl (lv_at hl 2 rfl) ?_
  refine z_callV (As := [.int (nI t1)]) (rest := []) (st1 := [.ref (zad G 9 t1)]) hC hW LL_0 rfl rfl rfl (c_X4_findTape l G C M h12 (t := t1) ht1) mw_X4_findTape mv_X4_findTape mM_X4_62 ⟨Nat.le_of_ble_eq_true rfl, Nat.le_of_ble_eq_true rfl⟩ rfl rfl hl.1 (lv_room (Nat.le_of_ble_eq_true rfl)) dX4_move_2 rfl (fun H locs hW => ?_) ⟨Nat.zero_le _, Nat.zero_le _⟩
  refine lv_astore (lv' := [(4, .ref (zad G 9 t1)), (0, .ref (zad G 0 0)), (1, .int x), (2, .int (nI t1)), (3, .int (nI t2))]) hx hb dX4_move_5 hl (by decide) rfl (fun ls hl => ?_)
  refine lv_aload_n hx hb dX4_move_7 rfl (lv_at hl 1 rfl) ?_
  refine lv_iload_n hx hb dX4_move_8 rfl (lv_at hl 4 rfl) ?_
  refine z_callV (As := [.int (nI t2)]) (rest := []) (st1 := [.ref (zad G 9 t2)]) hC hW LL_0 rfl rfl rfl (c_X4_findTape l G C M h12 (t := t2) ht2) mw_X4_findTape mv_X4_findTape mM_X4_62 ⟨Nat.le_of_ble_eq_true rfl, Nat.le_of_ble_eq_true rfl⟩ rfl rfl hl.1 (lv_room (Nat.le_of_ble_eq_true rfl)) dX4_move_9 rfl (fun H locs hW => ?_) ⟨Nat.zero_le _, Nat.zero_le _⟩
  refine lv_astore (lv' := [(5, .ref (zad G 9 t2)), (4, .ref (zad G 9 t1)), (0, .ref (zad G 0 0)), (1, .int x), (2, .int (nI t1)), (3, .int (nI t2))]) hx hb dX4_move_12 hl (by decide) rfl (fun ls hl => ?_)
  refine lv_iload_n hx hb dX4_move_14 rfl (lv_at hl 3 rfl) ?_
  refine z_callS (rest := []) (st1 := [.int (bI (nameP x))]) hC hW (c_X4_isName l G C M x) mw_X4_isName mT_X4_isName mM_X4_52 ⟨Nat.le_of_ble_eq_true rfl, Nat.le_of_ble_eq_true rfl⟩ rfl rfl hl.1 (lv_room (Nat.le_of_ble_eq_true rfl)) dX4_move_15 rfl (fun H locs hW => ?_) ⟨Nat.zero_le _, Nat.zero_le _⟩
  refine zb_eq (tgt := 36) hx hb (nameP x) rfl dX4_move_18 (by decide) (fun h18 => ?_) (fun h18 => ?_)
  · exact absurd hn h18
  · refine lv_aload hx hb dX4_move_21 (lv_at hl 1 rfl) ?_
    refine lv_ifnull hx hb dX4_move_23 ?_
    refine lv_aload hx hb dX4_move_26 (lv_at hl 0 rfl) ?_
    refine lv_ifnull hx hb dX4_move_28 ?_
    refine lv_iload_n hx hb dX4_move_31 rfl (lv_at hl 4 rfl) ?_
    refine lv_iload_n hx hb dX4_move_32 rfl (lv_at hl 5 rfl) ?_
    refine zc_ne (i := t1) (j := t2) (tgt := 38) hx hb rfl rfl (by omega) (by omega) dX4_move_33 (by decide) (fun h33 => ?_) (fun h33 => ?_)
    · exact absurd hs h33
    · refine lv_iconst (v := (-1)) hx hb dX4_move_36 (by decide) ?_
      have qr : ((-1) : Int32) = -1 := by simp [bI, h18, h33, cF_sF, cN_sN, cB_sB, cM_sM, cN_sF, cB_sF, cM_sF, cF_sN, cB_sN, cM_sN, cF_sB, cN_sB, cM_sB, cF_sM, cN_sM, cB_sM, mF_smF, mA_smF, mF_smA, mA_smA]
      exact hE hW qr dX4_move_37

set_option maxHeartbeats 4000000 in
set_option maxRecDepth 100000 in
theorem c_move_0 (l : Launch) (G : GG) (C : CS) (M : MS) (h12 : zn G ≤ 12) {x : Int32} {t1 t2 : Nat} (ht1 : t1 < zn G) (ht2 : t2 < zn G) (hn : nameP x) (hs : t1 ≠ t2) (hI : Iv C) (hlh : lh C t1 x = none) : Ct l G yX4_move cX4_move 7 (some .int) 7 165 [.ref (zad G 0 0), .int x, .int (nI t1), .int (nI t2)] C M (some (.int (-2))) C M := by
  refine Ct_i (by decide) (Nat.le_of_ble_eq_true rfl) (fun {p e s m args below meth c A Q ls} hC hW hl hE => ?_)
  have hx := hC.1
  have hb := hC.2.1
  have hl : lv_has ls 7 [(0, .ref (zad G 0 0)), (1, .int x), (2, .int (nI t1)), (3, .int (nI t2))] := hl
  refine lv_aload_n hx hb dX4_move_0 rfl (lv_at hl 0 rfl) ?_
  refine lv_iload_n hx hb dX4_move_1 rfl (lv_at hl 2 rfl) ?_
  refine z_callV (As := [.int (nI t1)]) (rest := []) (st1 := [.ref (zad G 9 t1)]) hC hW LL_0 rfl rfl rfl (c_X4_findTape l G C M h12 (t := t1) ht1) mw_X4_findTape mv_X4_findTape mM_X4_62 ⟨Nat.le_of_ble_eq_true rfl, Nat.le_of_ble_eq_true rfl⟩ rfl rfl hl.1 (lv_room (Nat.le_of_ble_eq_true rfl)) dX4_move_2 rfl (fun H locs hW => ?_) ⟨Nat.zero_le _, Nat.zero_le _⟩
  refine lv_astore (lv' := [(4, .ref (zad G 9 t1)), (0, .ref (zad G 0 0)), (1, .int x), (2, .int (nI t1)), (3, .int (nI t2))]) hx hb dX4_move_5 hl (by decide) rfl (fun ls hl => ?_)
  refine lv_aload_n hx hb dX4_move_7 rfl (lv_at hl 1 rfl) ?_
  refine lv_iload_n hx hb dX4_move_8 rfl (lv_at hl 4 rfl) ?_
  refine z_callV (As := [.int (nI t2)]) (rest := []) (st1 := [.ref (zad G 9 t2)]) hC hW LL_0 rfl rfl rfl (c_X4_findTape l G C M h12 (t := t2) ht2) mw_X4_findTape mv_X4_findTape mM_X4_62 ⟨Nat.le_of_ble_eq_true rfl, Nat.le_of_ble_eq_true rfl⟩ rfl rfl hl.1 (lv_room (Nat.le_of_ble_eq_true rfl)) dX4_move_9 rfl (fun H locs hW => ?_) ⟨Nat.zero_le _, Nat.zero_le _⟩
  refine lv_astore (lv' := [(5, .ref (zad G 9 t2)), (4, .ref (zad G 9 t1)), (0, .ref (zad G 0 0)), (1, .int x), (2, .int (nI t1)), (3, .int (nI t2))]) hx hb dX4_move_12 hl (by decide) rfl (fun ls hl => ?_)
  refine lv_iload_n hx hb dX4_move_14 rfl (lv_at hl 3 rfl) ?_
  refine z_callS (rest := []) (st1 := [.int (bI (nameP x))]) hC hW (c_X4_isName l G C M x) mw_X4_isName mT_X4_isName mM_X4_52 ⟨Nat.le_of_ble_eq_true rfl, Nat.le_of_ble_eq_true rfl⟩ rfl rfl hl.1 (lv_room (Nat.le_of_ble_eq_true rfl)) dX4_move_15 rfl (fun H locs hW => ?_) ⟨Nat.zero_le _, Nat.zero_le _⟩
  refine zb_eq (tgt := 36) hx hb (nameP x) rfl dX4_move_18 (by decide) (fun h18 => ?_) (fun h18 => ?_)
  · exact absurd hn h18
  · refine lv_aload hx hb dX4_move_21 (lv_at hl 1 rfl) ?_
    refine lv_ifnull hx hb dX4_move_23 ?_
    refine lv_aload hx hb dX4_move_26 (lv_at hl 0 rfl) ?_
    refine lv_ifnull hx hb dX4_move_28 ?_
    refine lv_iload_n hx hb dX4_move_31 rfl (lv_at hl 4 rfl) ?_
    refine lv_iload_n hx hb dX4_move_32 rfl (lv_at hl 5 rfl) ?_
    refine zc_ne (i := t1) (j := t2) (tgt := 38) hx hb rfl rfl (by omega) (by omega) dX4_move_33 (by decide) (fun h33 => ?_) (fun h33 => ?_)
    · refine lv_aload hx hb dX4_move_38 (lv_at hl 1 rfl) ?_
      refine lv_iload_n hx hb dX4_move_40 rfl (lv_at hl 3 rfl) ?_
      refine z_callV (As := [.int x]) (rest := []) (st1 := [.int (oI (lh C t1 x))]) hC hW (LL_9 ht1) rfl rfl rfl (c_X3_listedHead l G C M ht1 hI x) mw_X3_listedHead mv_X3_listedHead mM_X4_77 ⟨Nat.le_of_ble_eq_true rfl, Nat.le_of_ble_eq_true rfl⟩ rfl rfl hl.1 (lv_room (Nat.le_of_ble_eq_true rfl)) dX4_move_41 rfl (fun H locs hW => ?_) ⟨Nat.zero_le _, Nat.zero_le _⟩
      refine z_top (y := -2) (by rw [hlh]; rfl) ?_
      refine lv_istore (lv' := [(6, .int (-2)), (5, .ref (zad G 9 t2)), (4, .ref (zad G 9 t1)), (0, .ref (zad G 0 0)), (1, .int x), (2, .int (nI t1)), (3, .int (nI t2))]) hx hb dX4_move_44 hl (by decide) rfl (fun ls hl => ?_)
      refine lv_iload hx hb dX4_move_46 (lv_at hl 0 rfl) ?_
      refine lv_bipush (v := (-2)) hx hb dX4_move_48 (by decide) ?_
      refine lv_icmp_ne (tgt := 56) hx hb dX4_move_50 (by decide) (fun h50 => ?_) (fun h50 => ?_)
      · exact absurd rfl h50
      · refine lv_bipush (v := (-2)) hx hb dX4_move_53 (by decide) ?_
        have qr : ((-2) : Int32) = -2 := by simp [bI, h18, h33, h50, cF_sF, cN_sN, cB_sB, cM_sM, cN_sF, cB_sF, cM_sF, cF_sN, cB_sN, cM_sN, cF_sB, cN_sB, cM_sB, cF_sM, cN_sM, cB_sM, mF_smF, mA_smF, mF_smA, mA_smA]
        exact hE hW qr dX4_move_55
    · exact absurd h33 hs

set_option maxHeartbeats 4000000 in
set_option maxRecDepth 100000 in
theorem c_move_1 (l : Launch) (G : GG) (C : CS) (M : MS) (h12 : zn G ≤ 12) {x : Int32} {t1 t2 : Nat} (ht1 : t1 < zn G) (ht2 : t2 < zn G) (hn : nameP x) (hs : t1 ≠ t2) (hI : Iv C) (hT : ∀ d t, cM C d = some t → t < zn G) {h : Nat} (hlh : lh C t1 x = some h) : Ct l G yX4_move cX4_move 7 (some .int) 7 165 [.ref (zad G 0 0), .int x, .int (nI t1), .int (nI t2)] C M (some (.int ((mjC C t1 h t2).1))) (couC (mjC C t1 h t2).2 (mjC C t1 h t2).1) M := by
  refine Ct_i (by decide) (Nat.le_of_ble_eq_true rfl) (fun {p e s m args below meth c A Q ls} hC hW hl hE => ?_)
  have hx := hC.1
  have hb := hC.2.1
  have hl : lv_has ls 7 [(0, .ref (zad G 0 0)), (1, .int x), (2, .int (nI t1)), (3, .int (nI t2))] := hl
  have hh : h < 100 := by have := lh_lt hlh; have := hI.1 t1; have := cap_le t1; omega
  refine lv_aload_n hx hb dX4_move_0 rfl (lv_at hl 0 rfl) ?_
  refine lv_iload_n hx hb dX4_move_1 rfl (lv_at hl 2 rfl) ?_
  refine z_callV (As := [.int (nI t1)]) (rest := []) (st1 := [.ref (zad G 9 t1)]) hC hW LL_0 rfl rfl rfl (c_X4_findTape l G C M h12 (t := t1) ht1) mw_X4_findTape mv_X4_findTape mM_X4_62 ⟨Nat.le_of_ble_eq_true rfl, Nat.le_of_ble_eq_true rfl⟩ rfl rfl hl.1 (lv_room (Nat.le_of_ble_eq_true rfl)) dX4_move_2 rfl (fun H locs hW => ?_) ⟨Nat.zero_le _, Nat.zero_le _⟩
  refine lv_astore (lv' := [(4, .ref (zad G 9 t1)), (0, .ref (zad G 0 0)), (1, .int x), (2, .int (nI t1)), (3, .int (nI t2))]) hx hb dX4_move_5 hl (by decide) rfl (fun ls hl => ?_)
  refine lv_aload_n hx hb dX4_move_7 rfl (lv_at hl 1 rfl) ?_
  refine lv_iload_n hx hb dX4_move_8 rfl (lv_at hl 4 rfl) ?_
  refine z_callV (As := [.int (nI t2)]) (rest := []) (st1 := [.ref (zad G 9 t2)]) hC hW LL_0 rfl rfl rfl (c_X4_findTape l G C M h12 (t := t2) ht2) mw_X4_findTape mv_X4_findTape mM_X4_62 ⟨Nat.le_of_ble_eq_true rfl, Nat.le_of_ble_eq_true rfl⟩ rfl rfl hl.1 (lv_room (Nat.le_of_ble_eq_true rfl)) dX4_move_9 rfl (fun H locs hW => ?_) ⟨Nat.zero_le _, Nat.zero_le _⟩
  refine lv_astore (lv' := [(5, .ref (zad G 9 t2)), (4, .ref (zad G 9 t1)), (0, .ref (zad G 0 0)), (1, .int x), (2, .int (nI t1)), (3, .int (nI t2))]) hx hb dX4_move_12 hl (by decide) rfl (fun ls hl => ?_)
  refine lv_iload_n hx hb dX4_move_14 rfl (lv_at hl 3 rfl) ?_
  refine z_callS (rest := []) (st1 := [.int (bI (nameP x))]) hC hW (c_X4_isName l G C M x) mw_X4_isName mT_X4_isName mM_X4_52 ⟨Nat.le_of_ble_eq_true rfl, Nat.le_of_ble_eq_true rfl⟩ rfl rfl hl.1 (lv_room (Nat.le_of_ble_eq_true rfl)) dX4_move_15 rfl (fun H locs hW => ?_) ⟨Nat.zero_le _, Nat.zero_le _⟩
  refine zb_eq (tgt := 36) hx hb (nameP x) rfl dX4_move_18 (by decide) (fun h18 => ?_) (fun h18 => ?_)
  · exact absurd hn h18
  · refine lv_aload hx hb dX4_move_21 (lv_at hl 1 rfl) ?_
    refine lv_ifnull hx hb dX4_move_23 ?_
    refine lv_aload hx hb dX4_move_26 (lv_at hl 0 rfl) ?_
    refine lv_ifnull hx hb dX4_move_28 ?_
    refine lv_iload_n hx hb dX4_move_31 rfl (lv_at hl 4 rfl) ?_
    refine lv_iload_n hx hb dX4_move_32 rfl (lv_at hl 5 rfl) ?_
    refine zc_ne (i := t1) (j := t2) (tgt := 38) hx hb rfl rfl (by omega) (by omega) dX4_move_33 (by decide) (fun h33 => ?_) (fun h33 => ?_)
    · refine lv_aload hx hb dX4_move_38 (lv_at hl 1 rfl) ?_
      refine lv_iload_n hx hb dX4_move_40 rfl (lv_at hl 3 rfl) ?_
      refine z_callV (As := [.int x]) (rest := []) (st1 := [.int (oI (lh C t1 x))]) hC hW (LL_9 ht1) rfl rfl rfl (c_X3_listedHead l G C M ht1 hI x) mw_X3_listedHead mv_X3_listedHead mM_X4_77 ⟨Nat.le_of_ble_eq_true rfl, Nat.le_of_ble_eq_true rfl⟩ rfl rfl hl.1 (lv_room (Nat.le_of_ble_eq_true rfl)) dX4_move_41 rfl (fun H locs hW => ?_) ⟨Nat.zero_le _, Nat.zero_le _⟩
      refine z_top (y := nI h) (by rw [hlh]; rfl) ?_
      refine lv_istore (lv' := [(6, .int (nI h)), (5, .ref (zad G 9 t2)), (4, .ref (zad G 9 t1)), (0, .ref (zad G 0 0)), (1, .int x), (2, .int (nI t1)), (3, .int (nI t2))]) hx hb dX4_move_44 hl (by decide) rfl (fun ls hl => ?_)
      refine lv_iload hx hb dX4_move_46 (lv_at hl 0 rfl) ?_
      refine lv_bipush (v := (-2)) hx hb dX4_move_48 (by decide) ?_
      refine lv_icmp_ne (tgt := 56) hx hb dX4_move_50 (by decide) (fun h50 => ?_) (fun h50 => ?_)
      · refine lv_aload_n hx hb dX4_move_56 rfl (lv_at hl 3 rfl) ?_
        refine lv_aload_n hx hb dX4_move_57 rfl (lv_at hl 3 rfl) ?_
        refine lv_aload hx hb dX4_move_58 (lv_at hl 2 rfl) ?_
        refine lv_iload hx hb dX4_move_60 (lv_at hl 0 rfl) ?_
        refine lv_aload hx hb dX4_move_62 (lv_at hl 1 rfl) ?_
        refine z_callV (As := [.ref (zad G 9 t1), .int (nI h), .ref (zad G 9 t2)]) (rest := [.ref (zad G 0 0)]) (st1 := [.int ((mjC C t1 h t2).1), .ref (zad G 0 0)]) hC hW LL_0 rfl rfl rfl (c_X4_moveJob l G C M ht1 ht2 hI hT (q := h) hh) mw_X4_moveJob mv_X4_moveJob mM_X4_84 ⟨Nat.le_of_ble_eq_true rfl, Nat.le_of_ble_eq_true rfl⟩ rfl rfl hl.1 (lv_room (Nat.le_of_ble_eq_true rfl)) dX4_move_64 rfl (fun H locs hW => ?_) ⟨Nat.zero_le _, Nat.zero_le _⟩
        obtain ⟨C1, eC1⟩ : ∃ z, z = (mjC C t1 h t2).2 := ⟨_, rfl⟩
        rw [← eC1] at hW
        refine z_callV (As := [.int ((mjC C t1 h t2).1)]) (rest := []) (st1 := [.int ((mjC C t1 h t2).1)]) hC hW LL_0 rfl rfl rfl (c_X4_counted l G C1 M ((mjC C t1 h t2).1)) mw_X4_counted mv_X4_counted mM_X4_73 ⟨Nat.le_of_ble_eq_true rfl, Nat.le_of_ble_eq_true rfl⟩ rfl rfl hl.1 (lv_room (Nat.le_of_ble_eq_true rfl)) dX4_move_67 rfl (fun H locs hW => ?_) ⟨Nat.zero_le _, Nat.zero_le _⟩
        obtain ⟨C2, eC2⟩ : ∃ z, z = couC C1 ((mjC C t1 h t2).1) := ⟨_, rfl⟩
        rw [← eC2] at hW
        rw [eC2, eC1] at hW
        exact hE hW rfl dX4_move_70
      · exact absurd h50 (nI_m2 h hh)
    · exact absurd h33 hs

theorem c_X4_move (l : Launch) (G : GG) (C : CS) (M : MS) (h12 : zn G ≤ 12) (hI : Iv C) (hT : ∀ d t, cM C d = some t → t < zn G) (x y z : Int32) : Ct l G yX4_move cX4_move 7 (some .int) 7 165 [.ref (zad G 0 0), .int x, .int y, .int z] C M (some (.int (movT (zn G) C x y z).1)) (movT (zn G) C x y z).2 M := by
  unfold movT
  rcases tape_cases h12 y with hb | ⟨t, ht, rfl, hb, htx⟩
  · rw [if_pos hb]
    rcases tape_cases h12 z with hb2 | ⟨t2, ht2, rfl, hb2, htx2⟩
    · exact c_move_bb l G C M h12 hb hb2
    · exact c_move_bo l G C M h12 hb ht2
  · rw [if_neg hb, htx]
    rcases tape_cases h12 z with hb2 | ⟨t2, ht2, rfl, hb2, htx2⟩
    · rw [if_pos hb2]; exact c_move_ob l G C M h12 ht hb2
    · rw [if_neg hb2, htx2]
      by_cases hn : nameP x
      · rw [if_pos hn]
        by_cases hs : t = t2
        · rw [if_pos hs]; exact c_move_s l G C M h12 ht ht2 hn hs
        · rw [if_neg hs]
          cases hlh : lh C t x with
          | none => exact c_move_0 l G C M h12 ht ht2 hn hs hI hlh
          | some h => exact c_move_1 l G C M h12 ht ht2 hn hs hI hT hlh
      · rw [if_neg hn]; exact c_move_n l G C M h12 ht ht2 hn

set_option maxHeartbeats 4000000 in
set_option maxRecDepth 100000 in
theorem c_sal_n (l : Launch) (G : GG) (C : CS) (M : MS) {x : Int32} (hn : ¬ nameP x) : Ct l G yX4_salvage cX4_salvage 5 (some .int) 5 113 [.ref (zad G 0 0), .int x] C M (some (.int (-1))) C M := by
  refine Ct_i (by decide) (Nat.le_of_ble_eq_true rfl) (fun {p e s m args below meth c A Q ls} hC hW hl hE => ?_)
  have hx := hC.1
  have hb := hC.2.1
  have hl : lv_has ls 5 [(0, .ref (zad G 0 0)), (1, .int x)] := hl
  refine lv_iload_n hx hb dX4_salvage_0 rfl (lv_at hl 1 rfl) ?_
  refine z_callS (rest := []) (st1 := [.int (bI (nameP x))]) hC hW (c_X4_isName l G C M x) mw_X4_isName mT_X4_isName mM_X4_52 ⟨Nat.le_of_ble_eq_true rfl, Nat.le_of_ble_eq_true rfl⟩ rfl rfl hl.1 (lv_room (Nat.le_of_ble_eq_true rfl)) dX4_salvage_1 rfl (fun H locs hW => ?_) ⟨Nat.zero_le _, Nat.zero_le _⟩
  refine zb_ne (tgt := 9) hx hb (nameP x) rfl dX4_salvage_4 (by decide) (fun h4 => ?_) (fun h4 => ?_)
  · exact absurd h4 hn
  · refine lv_iconst (v := (-1)) hx hb dX4_salvage_7 (by decide) ?_
    have qr : ((-1) : Int32) = -1 := by simp [bI, h4, cF_sF, cN_sN, cB_sB, cM_sM, cN_sF, cB_sF, cM_sF, cF_sN, cB_sN, cM_sN, cF_sB, cN_sB, cM_sB, cF_sM, cN_sM, cB_sM, mF_smF, mA_smF, mF_smA, mA_smA]
    exact hE hW qr dX4_salvage_8

set_option maxHeartbeats 4000000 in
set_option maxRecDepth 100000 in
theorem c_sal_1 (l : Launch) (G : GG) (C : CS) (M : MS) (h12 : zn G ≤ 12) {x : Int32} (hn : nameP x) (hI : Iv C) (hT : ∀ d t, cM C d = some t → t < zn G) : Ct l G yX4_salvage cX4_salvage 5 (some .int) 5 113 [.ref (zad G 0 0), .int x] C M (some (.int ((svL x (zn G) 0 (-2) C).1))) ((svL x (zn G) 0 (-2) C).2) M := by
  refine Ct_i (by decide) (Nat.le_of_ble_eq_true rfl) (fun {p e s m args below meth c A Q ls} hC hW hl hE => ?_)
  have hx := hC.1
  have hb := hC.2.1
  have hl : lv_has ls 5 [(0, .ref (zad G 0 0)), (1, .int x)] := hl
  refine lv_iload_n hx hb dX4_salvage_0 rfl (lv_at hl 1 rfl) ?_
  refine z_callS (rest := []) (st1 := [.int (bI (nameP x))]) hC hW (c_X4_isName l G C M x) mw_X4_isName mT_X4_isName mM_X4_52 ⟨Nat.le_of_ble_eq_true rfl, Nat.le_of_ble_eq_true rfl⟩ rfl rfl hl.1 (lv_room (Nat.le_of_ble_eq_true rfl)) dX4_salvage_1 rfl (fun H locs hW => ?_) ⟨Nat.zero_le _, Nat.zero_le _⟩
  refine zb_ne (tgt := 9) hx hb (nameP x) rfl dX4_salvage_4 (by decide) (fun h4 => ?_) (fun h4 => ?_)
  · refine lv_bipush (v := (-2)) hx hb dX4_salvage_9 (by decide) ?_
    refine lv_istore_n (lv' := [(2, .int (-2)), (0, .ref (zad G 0 0)), (1, .int x)]) hx hb dX4_salvage_11 rfl hl (by decide) rfl (fun ls hl => ?_)
    refine lv_iconst (v := 0) hx hb dX4_salvage_12 (by decide) ?_
    refine lv_istore_n (lv' := [(3, .int 0), (2, .int (-2)), (0, .ref (zad G 0 0)), (1, .int x)]) hx hb dX4_salvage_13 rfl hl (by decide) rfl (fun ls hl => ?_)
    have lp : ∀ (k : Nat) (j : Nat) (u : Int32) (Cj : CS), j + k = zn G → Iv Cj → cM Cj = cM C → svL x k j u Cj = svL x (zn G) 0 (-2) C → ∀ (H : Heap) (locs : List Loc) (ls : Array Slot), Wd G s A s.heap H locs Cj M → lv_has ls 5 [(0, .ref (zad G 0 0)), (1, .int x), (2, .int u), (3, .int (nI j))] → W p l e { frames := 5, cells := 0, slots := 0, locals := 113 } s m args below meth c H locs 0 0 Q (F0 m 14 ls []) := by
      intro k
      induction k with
      | zero =>
        intro j u Cj hk hIj hmj hD H locs ls hW hl
        refine lv_iload_n hx hb dX4_salvage_14 rfl (lv_at hl 3 rfl) ?_
        refine lv_aload_n hx hb dX4_salvage_15 rfl (lv_at hl 0 rfl) ?_
        refine g0 (k := 4) (v := .int (nI (zn G))) hC hW (by decide) mF_X4_48 rfl dX4_salvage_16 ?_
        refine zc_ge (i := j) (j := zn G) (tgt := 79) hx hb rfl rfl (by omega) (by omega) dX4_salvage_19 (by decide) (fun h19 => ?_) (fun h19 => ?_)
        · refine lv_iload_n hx hb dX4_salvage_79 rfl (lv_at hl 2 rfl) ?_
          have hD2 : svL x (zn G) 0 (-2) C = (u, Cj) := by rw [← hD]; rfl
          rw [hD2] at hE
          exact hE hW rfl dX4_salvage_80
        · exact absurd h19 (by omega)
      | succ k ih =>
        intro j u Cj hk hIj hmj hD H locs ls hW hl
        have hj : j < zn G := by omega
        refine lv_iload_n hx hb dX4_salvage_14 rfl (lv_at hl 3 rfl) ?_
        refine lv_aload_n hx hb dX4_salvage_15 rfl (lv_at hl 0 rfl) ?_
        refine g0 (k := 4) (v := .int (nI (zn G))) hC hW (by decide) mF_X4_48 rfl dX4_salvage_16 ?_
        refine zc_ge (i := j) (j := zn G) (tgt := 79) hx hb rfl rfl (by omega) (by omega) dX4_salvage_19 (by decide) (fun h19 => ?_) (fun h19 => ?_)
        · exact absurd h19 (by omega)
        · refine lv_aload_n hx hb dX4_salvage_22 rfl (lv_at hl 0 rfl) ?_
          refine g0 (k := 2) (v := .ref (zad G 4 0)) hC hW (by decide) mF_X4_27 rfl dX4_salvage_23 ?_
          refine lv_iload_n hx hb dX4_salvage_26 rfl (lv_at hl 3 rfl) ?_
          refine at9 (t := j) hC hW rfl (by omega) h12 dX4_salvage_27 ?_
          refine lv_iload_n hx hb dX4_salvage_28 rfl (lv_at hl 1 rfl) ?_
          refine z_callV (As := [.int x]) (rest := []) (st1 := [.int (oI (lh Cj j x))]) hC hW (LL_9 (by omega)) rfl rfl rfl (c_X3_listedHead l G Cj M hj hIj x) mw_X3_listedHead mv_X3_listedHead mM_X4_77 ⟨Nat.le_of_ble_eq_true rfl, Nat.le_of_ble_eq_true rfl⟩ rfl rfl hl.1 (lv_room (Nat.le_of_ble_eq_true rfl)) dX4_salvage_29 rfl (fun H locs hW => ?_) ⟨Nat.zero_le _, Nat.zero_le _⟩
          cases hlh : lh Cj j x with
          | none =>
            refine z_top (y := -2) rfl ?_
            refine lv_istore (lv' := [(4, .int (-2)), (0, .ref (zad G 0 0)), (1, .int x), (2, .int u), (3, .int (nI j))]) hx hb dX4_salvage_32 hl (by decide) rfl (fun ls hl => ?_)
            refine lv_iload hx hb dX4_salvage_34 (lv_at hl 0 rfl) ?_
            refine lv_bipush (v := (-2)) hx hb dX4_salvage_36 (by decide) ?_
            refine lv_icmp_eq (tgt := 73) hx hb dX4_salvage_38 (by decide) (fun h38 => ?_) (fun h38 => ?_)
            · refine lv_iinc (k := 4) (v := nI (j + 1)) (lv' := [(3, .int (nI (j + 1))), (4, .int (-2)), (0, .ref (zad G 0 0)), (1, .int x), (2, .int u)]) hx hb dX4_salvage_73 hl rfl (nI_inc _) (by decide) rfl (fun ls hl => ?_)
              refine lv_goto (tgt := 14) hx hb dX4_salvage_76 (by decide) ?_
              exact ih (j + 1) u Cj (by omega) hIj hmj (by rw [← hD, svL, hlh]) _ _ _ hW (lv_sub hl [2, 3, 4, 0] rfl)
            · exact absurd rfl h38
          | some h =>
            have hh : h < 100 := by have := lh_lt hlh; have := hIj.1 j; have := cap_le j; omega
            refine z_top (y := nI h) rfl ?_
            refine lv_istore (lv' := [(4, .int (nI h)), (0, .ref (zad G 0 0)), (1, .int x), (2, .int u), (3, .int (nI j))]) hx hb dX4_salvage_32 hl (by decide) rfl (fun ls hl => ?_)
            refine lv_iload hx hb dX4_salvage_34 (lv_at hl 0 rfl) ?_
            refine lv_bipush (v := (-2)) hx hb dX4_salvage_36 (by decide) ?_
            refine lv_icmp_eq (tgt := 73) hx hb dX4_salvage_38 (by decide) (fun h38 => ?_) (fun h38 => ?_)
            · exact absurd h38 (nI_m2 h hh)
            · refine lv_aload_n hx hb dX4_salvage_41 rfl (lv_at hl 1 rfl) ?_
              refine lv_aload_n hx hb dX4_salvage_42 rfl (lv_at hl 1 rfl) ?_
              refine lv_aload_n hx hb dX4_salvage_43 rfl (lv_at hl 1 rfl) ?_
              refine g0 (k := 2) (v := .ref (zad G 4 0)) hC hW (by decide) mF_X4_27 rfl dX4_salvage_44 ?_
              refine lv_iload_n hx hb dX4_salvage_47 rfl (lv_at hl 4 rfl) ?_
              refine at9 (t := j) hC hW rfl (by omega) h12 dX4_salvage_48 ?_
              refine lv_iload hx hb dX4_salvage_49 (lv_at hl 0 rfl) ?_
              refine z_callV (As := [.ref (zad G 9 j), .int (nI h)]) (rest := [.ref (zad G 0 0)]) (st1 := [.int ((rjC Cj j h).1), .ref (zad G 0 0)]) hC hW LL_0 rfl rfl rfl (c_X4_readJob l G Cj M hj hIj (by rw [hmj]; exact hT) h12 (h := h) hh) mw_X4_readJob mv_X4_readJob mM_X4_80 ⟨Nat.le_of_ble_eq_true rfl, Nat.le_of_ble_eq_true rfl⟩ rfl rfl hl.1 (lv_room (Nat.le_of_ble_eq_true rfl)) dX4_salvage_51 rfl (fun H locs hW => ?_) ⟨Nat.zero_le _, Nat.zero_le _⟩
              obtain ⟨C1, eC1⟩ : ∃ z, z = (rjC Cj j h).2 := ⟨_, rfl⟩
              rw [← eC1] at hW
              refine z_callV (As := [.int ((rjC Cj j h).1)]) (rest := []) (st1 := [.int ((rjC Cj j h).1)]) hC hW LL_0 rfl rfl rfl (c_X4_counted l G C1 M ((rjC Cj j h).1)) mw_X4_counted mv_X4_counted mM_X4_73 ⟨Nat.le_of_ble_eq_true rfl, Nat.le_of_ble_eq_true rfl⟩ rfl rfl hl.1 (lv_room (Nat.le_of_ble_eq_true rfl)) dX4_salvage_54 rfl (fun H locs hW => ?_) ⟨Nat.zero_le _, Nat.zero_le _⟩
              obtain ⟨C2, eC2⟩ : ∃ z, z = couC C1 ((rjC Cj j h).1) := ⟨_, rfl⟩
              rw [← eC2] at hW
              refine lv_istore_n (lv' := [(2, .int ((rjC Cj j h).1)), (4, .int (nI h)), (0, .ref (zad G 0 0)), (1, .int x), (3, .int (nI j))]) hx hb dX4_salvage_57 rfl hl (by decide) rfl (fun ls hl => ?_)
              refine lv_iload_n hx hb dX4_salvage_58 rfl (lv_at hl 0 rfl) ?_
              refine lv_if_lt (tgt := 64) hx hb dX4_salvage_59 (by decide) (fun h59 => ?_) (fun h59 => ?_)
              · refine lv_iload_n hx hb dX4_salvage_64 rfl (lv_at hl 0 rfl) ?_
                refine lv_bipush (v := (-4)) hx hb dX4_salvage_65 (by decide) ?_
                refine lv_icmp_ne (tgt := 73) hx hb dX4_salvage_67 (by decide) (fun h67 => ?_) (fun h67 => ?_)
                · refine lv_iinc (k := 4) (v := nI (j + 1)) (lv' := [(3, .int (nI (j + 1))), (2, .int ((rjC Cj j h).1)), (4, .int (nI h)), (0, .ref (zad G 0 0)), (1, .int x)]) hx hb dX4_salvage_73 hl rfl (nI_inc _) (by decide) rfl (fun ls hl => ?_)
                  refine lv_goto (tgt := 14) hx hb dX4_salvage_76 (by decide) ?_
                  exact ih (j + 1) ((rjC Cj j h).1) C2 (by omega) (by rw [eC2, eC1]; exact couC_I (rjC_I hIj)) (by funext d'; rw [eC2, couC_M, eC1, rjC_M, hmj]) (by rw [← hD, svL, hlh]; show _ = (if (rjC Cj j h).1 < 0 then (if (rjC Cj j h).1 = -4 then (-4, svS Cj j h) else svL x k (j + 1) (rjC Cj j h).1 (svS Cj j h)) else (nI j, svS Cj j h)); rw [if_pos h59, if_neg h67, eC2, eC1]; rfl) _ _ _ hW (lv_sub hl [3, 4, 1, 0] rfl)
                · refine lv_bipush (v := (-4)) hx hb dX4_salvage_70 (by decide) ?_
                  have hD2 : svL x (zn G) 0 (-2) C = (-4, C2) := by rw [← hD, svL, hlh]; show (if (rjC Cj j h).1 < 0 then (if (rjC Cj j h).1 = -4 then (-4, svS Cj j h) else svL x k (j + 1) (rjC Cj j h).1 (svS Cj j h)) else (nI j, svS Cj j h)) = _; rw [if_pos h59, if_pos h67, eC2, eC1]; rfl
                  rw [hD2] at hE
                  exact hE hW rfl dX4_salvage_72
              · refine lv_iload_n hx hb dX4_salvage_62 rfl (lv_at hl 4 rfl) ?_
                have hD2 : svL x (zn G) 0 (-2) C = (nI j, C2) := by rw [← hD, svL, hlh]; show (if (rjC Cj j h).1 < 0 then (if (rjC Cj j h).1 = -4 then (-4, svS Cj j h) else svL x k (j + 1) (rjC Cj j h).1 (svS Cj j h)) else (nI j, svS Cj j h)) = _; rw [if_neg h59, eC2, eC1]; rfl
                rw [hD2] at hE
                exact hE hW rfl dX4_salvage_63
    exact lp (zn G) 0 (-2) C (by omega) hI rfl rfl _ _ _ hW (lv_sub hl [2, 3, 1, 0] rfl)
  · exact absurd hn h4

theorem c_X4_salvage (l : Launch) (G : GG) (C : CS) (M : MS) (h12 : zn G ≤ 12) (hI : Iv C) (hT : ∀ d t, cM C d = some t → t < zn G) (x : Int32) : Ct l G yX4_salvage cX4_salvage 5 (some .int) 5 113 [.ref (zad G 0 0), .int x] C M (some (.int (salT (zn G) C x).1)) (salT (zn G) C x).2 M := by
  unfold salT
  by_cases hn : nameP x
  · rw [if_pos hn]; exact c_sal_1 l G C M h12 hn hI hT
  · rw [if_neg hn]; exact c_sal_n l G C M hn

set_option maxHeartbeats 4000000 in
set_option maxRecDepth 100000 in
theorem c_scan_b (l : Launch) (G : GG) (C : CS) (M : MS) (h12 : zn G ≤ 12) {x : Int32} (hbx : badT (zn G) x) : Ct l G yX4_scan cX4_scan 3 (some .int) 6 131 [.ref (zad G 0 0), .int x] C M (some (.int (-1))) C M := by
  refine Ct_i (by decide) (Nat.le_of_ble_eq_true rfl) (fun {p e s m args below meth c A Q ls} hC hW hl hE => ?_)
  have hx := hC.1
  have hb := hC.2.1
  have hl : lv_has ls 3 [(0, .ref (zad G 0 0)), (1, .int x)] := hl
  refine lv_aload_n hx hb dX4_scan_0 rfl (lv_at hl 0 rfl) ?_
  refine lv_iload_n hx hb dX4_scan_1 rfl (lv_at hl 1 rfl) ?_
  refine z_callV (As := [.int x]) (rest := []) (st1 := [.null]) hC hW LL_0 rfl rfl rfl (c_X4_findTape_n l G C M h12 (x := x) hbx) mw_X4_findTape mv_X4_findTape mM_X4_62 ⟨Nat.le_of_ble_eq_true rfl, Nat.le_of_ble_eq_true rfl⟩ rfl rfl hl.1 (lv_room (Nat.le_of_ble_eq_true rfl)) dX4_scan_2 rfl (fun H locs hW => ?_) ⟨Nat.zero_le _, Nat.zero_le _⟩
  refine lv_astore_nN (lv' := [(2, .null), (0, .ref (zad G 0 0)), (1, .int x)]) hx hb dX4_scan_5 rfl hl (by decide) rfl (fun ls hl => ?_)
  refine lv_aload_nN hx hb dX4_scan_6 rfl (lv_at hl 0 rfl) ?_
  refine lv_ifnonnullN hx hb dX4_scan_7 ?_
  refine lv_iconst (v := (-1)) hx hb dX4_scan_10 (by decide) ?_
  have qr : ((-1) : Int32) = -1 := by simp [bI, cF_sF, cN_sN, cB_sB, cM_sM, cN_sF, cB_sF, cM_sF, cF_sN, cB_sN, cM_sN, cF_sB, cN_sB, cM_sB, cF_sM, cN_sM, cB_sM, mF_smF, mA_smF, mF_smA, mA_smA]
  exact hE hW qr dX4_scan_11

set_option maxHeartbeats 4000000 in
set_option maxRecDepth 100000 in
theorem c_scan_1 (l : Launch) (G : GG) (C : CS) (M : MS) (h12 : zn G ≤ 12) {t : Nat} (ht : t < zn G) (hI : Iv C) (hT : ∀ d t, cM C d = some t → t < zn G) : Ct l G yX4_scan cX4_scan 3 (some .int) 6 131 [.ref (zad G 0 0), .int (nI t)] C M (some (.int ((sjC C t).1))) (couC (sjC C t).2 (sjC C t).1) M := by
  refine Ct_i (by decide) (Nat.le_of_ble_eq_true rfl) (fun {p e s m args below meth c A Q ls} hC hW hl hE => ?_)
  have hx := hC.1
  have hb := hC.2.1
  have hl : lv_has ls 3 [(0, .ref (zad G 0 0)), (1, .int (nI t))] := hl
  refine lv_aload_n hx hb dX4_scan_0 rfl (lv_at hl 0 rfl) ?_
  refine lv_iload_n hx hb dX4_scan_1 rfl (lv_at hl 1 rfl) ?_
  refine z_callV (As := [.int (nI t)]) (rest := []) (st1 := [.ref (zad G 9 t)]) hC hW LL_0 rfl rfl rfl (c_X4_findTape l G C M h12 (t := t) ht) mw_X4_findTape mv_X4_findTape mM_X4_62 ⟨Nat.le_of_ble_eq_true rfl, Nat.le_of_ble_eq_true rfl⟩ rfl rfl hl.1 (lv_room (Nat.le_of_ble_eq_true rfl)) dX4_scan_2 rfl (fun H locs hW => ?_) ⟨Nat.zero_le _, Nat.zero_le _⟩
  refine lv_astore_n (lv' := [(2, .ref (zad G 9 t)), (0, .ref (zad G 0 0)), (1, .int (nI t))]) hx hb dX4_scan_5 rfl hl (by decide) rfl (fun ls hl => ?_)
  refine lv_aload_n hx hb dX4_scan_6 rfl (lv_at hl 0 rfl) ?_
  refine lv_ifnonnull (tgt := 12) hx hb dX4_scan_7 (by decide) ?_
  refine lv_aload_n hx hb dX4_scan_12 rfl (lv_at hl 1 rfl) ?_
  refine lv_aload_n hx hb dX4_scan_13 rfl (lv_at hl 1 rfl) ?_
  refine lv_aload_n hx hb dX4_scan_14 rfl (lv_at hl 0 rfl) ?_
  refine z_callV (As := [.ref (zad G 9 t)]) (rest := [.ref (zad G 0 0)]) (st1 := [.int ((sjC C t).1), .ref (zad G 0 0)]) hC hW LL_0 rfl rfl rfl (c_X4_scanJob l G C M ht hI hT) mw_X4_scanJob mv_X4_scanJob mM_X4_88 ⟨Nat.le_of_ble_eq_true rfl, Nat.le_of_ble_eq_true rfl⟩ rfl rfl hl.1 (lv_room (Nat.le_of_ble_eq_true rfl)) dX4_scan_15 rfl (fun H locs hW => ?_) ⟨Nat.zero_le _, Nat.zero_le _⟩
  obtain ⟨C1, eC1⟩ : ∃ z, z = (sjC C t).2 := ⟨_, rfl⟩
  rw [← eC1] at hW
  refine z_callV (As := [.int ((sjC C t).1)]) (rest := []) (st1 := [.int ((sjC C t).1)]) hC hW LL_0 rfl rfl rfl (c_X4_counted l G C1 M ((sjC C t).1)) mw_X4_counted mv_X4_counted mM_X4_73 ⟨Nat.le_of_ble_eq_true rfl, Nat.le_of_ble_eq_true rfl⟩ rfl rfl hl.1 (lv_room (Nat.le_of_ble_eq_true rfl)) dX4_scan_18 rfl (fun H locs hW => ?_) ⟨Nat.zero_le _, Nat.zero_le _⟩
  obtain ⟨C2, eC2⟩ : ∃ z, z = couC C1 ((sjC C t).1) := ⟨_, rfl⟩
  rw [← eC2] at hW
  rw [eC2, eC1] at hW
  exact hE hW rfl dX4_scan_21

set_option maxHeartbeats 4000000 in
set_option maxRecDepth 100000 in
theorem c_lose_b (l : Launch) (G : GG) (C : CS) (M : MS) (h12 : zn G ≤ 12) {x : Int32} (hbx : badT (zn G) x) : Ct l G yX4_lose cX4_lose 3 (some .int) 1 22 [.ref (zad G 0 0), .int x] C M (some (.int (-1))) C M := by
  refine Ct_i (by decide) (Nat.le_of_ble_eq_true rfl) (fun {p e s m args below meth c A Q ls} hC hW hl hE => ?_)
  have hx := hC.1
  have hb := hC.2.1
  have hl : lv_has ls 3 [(0, .ref (zad G 0 0)), (1, .int x)] := hl
  refine lv_aload_n hx hb dX4_lose_0 rfl (lv_at hl 0 rfl) ?_
  refine lv_iload_n hx hb dX4_lose_1 rfl (lv_at hl 1 rfl) ?_
  refine z_callV (As := [.int x]) (rest := []) (st1 := [.null]) hC hW LL_0 rfl rfl rfl (c_X4_findTape_n l G C M h12 (x := x) hbx) mw_X4_findTape mv_X4_findTape mM_X4_62 ⟨Nat.le_of_ble_eq_true rfl, Nat.le_of_ble_eq_true rfl⟩ rfl rfl hl.1 (lv_room (Nat.le_of_ble_eq_true rfl)) dX4_lose_2 rfl (fun H locs hW => ?_) ⟨Nat.zero_le _, Nat.zero_le _⟩
  refine lv_astore_nN (lv' := [(2, .null), (0, .ref (zad G 0 0)), (1, .int x)]) hx hb dX4_lose_5 rfl hl (by decide) rfl (fun ls hl => ?_)
  refine lv_aload_nN hx hb dX4_lose_6 rfl (lv_at hl 0 rfl) ?_
  refine lv_ifnonnullN hx hb dX4_lose_7 ?_
  refine lv_iconst (v := (-1)) hx hb dX4_lose_10 (by decide) ?_
  refine lv_goto (tgt := 18) hx hb dX4_lose_11 (by decide) ?_
  have qr : ((-1) : Int32) = -1 := by simp [bI, cF_sF, cN_sN, cB_sB, cM_sM, cN_sF, cB_sF, cM_sF, cF_sN, cB_sN, cM_sN, cF_sB, cN_sB, cM_sB, cF_sM, cN_sM, cB_sM, mF_smF, mA_smF, mF_smA, mA_smA]
  exact hE hW qr dX4_lose_18

set_option maxHeartbeats 4000000 in
set_option maxRecDepth 100000 in
theorem c_lose_1 (l : Launch) (G : GG) (C : CS) (M : MS) (h12 : zn G ≤ 12) {t : Nat} (ht : t < zn G) : Ct l G yX4_lose cX4_lose 3 (some .int) 1 22 [.ref (zad G 0 0), .int (nI t)] C M (some (.int (nI (uaL t 100 0 0 C).1))) ((uaL t 100 0 0 C).2) M := by
  refine Ct_i (by decide) (Nat.le_of_ble_eq_true rfl) (fun {p e s m args below meth c A Q ls} hC hW hl hE => ?_)
  have hx := hC.1
  have hb := hC.2.1
  have hl : lv_has ls 3 [(0, .ref (zad G 0 0)), (1, .int (nI t))] := hl
  refine lv_aload_n hx hb dX4_lose_0 rfl (lv_at hl 0 rfl) ?_
  refine lv_iload_n hx hb dX4_lose_1 rfl (lv_at hl 1 rfl) ?_
  refine z_callV (As := [.int (nI t)]) (rest := []) (st1 := [.ref (zad G 9 t)]) hC hW LL_0 rfl rfl rfl (c_X4_findTape l G C M h12 (t := t) ht) mw_X4_findTape mv_X4_findTape mM_X4_62 ⟨Nat.le_of_ble_eq_true rfl, Nat.le_of_ble_eq_true rfl⟩ rfl rfl hl.1 (lv_room (Nat.le_of_ble_eq_true rfl)) dX4_lose_2 rfl (fun H locs hW => ?_) ⟨Nat.zero_le _, Nat.zero_le _⟩
  refine lv_astore_n (lv' := [(2, .ref (zad G 9 t)), (0, .ref (zad G 0 0)), (1, .int (nI t))]) hx hb dX4_lose_5 rfl hl (by decide) rfl (fun ls hl => ?_)
  refine lv_aload_n hx hb dX4_lose_6 rfl (lv_at hl 0 rfl) ?_
  refine lv_ifnonnull (tgt := 14) hx hb dX4_lose_7 (by decide) ?_
  refine lv_aload_n hx hb dX4_lose_14 rfl (lv_at hl 0 rfl) ?_
  refine z_callV (As := []) (rest := []) (st1 := [.int (nI ((uaL t 100 0 0 C).1))]) hC hW (LL_9 ht) rfl rfl rfl (c_X3_unlistAll l G C M ht) mw_X3_unlistAll mv_X3_unlistAll mM_X4_91 ⟨Nat.le_of_ble_eq_true rfl, Nat.le_of_ble_eq_true rfl⟩ rfl rfl hl.1 (lv_room (Nat.le_of_ble_eq_true rfl)) dX4_lose_15 rfl (fun H locs hW => ?_) ⟨Nat.zero_le _, Nat.zero_le _⟩
  obtain ⟨C1, eC1⟩ : ∃ z, z = (uaL t 100 0 0 C).2 := ⟨_, rfl⟩
  rw [← eC1] at hW
  rw [eC1] at hW
  exact hE hW rfl dX4_lose_18

theorem c_X4_scan (l : Launch) (G : GG) (C : CS) (M : MS) (h12 : zn G ≤ 12) (hI : Iv C) (hT : ∀ d t, cM C d = some t → t < zn G) (x : Int32) : Ct l G yX4_scan cX4_scan 3 (some .int) 6 131 [.ref (zad G 0 0), .int x] C M (some (.int (scaT (zn G) C x).1)) (scaT (zn G) C x).2 M := by
  unfold scaT
  rcases tape_cases h12 x with hb | ⟨t, ht, rfl, hb, htx⟩
  · rw [if_pos hb]; exact c_scan_b l G C M h12 hb
  · rw [if_neg hb, htx]; exact c_scan_1 l G C M h12 ht hI hT

theorem c_X4_lose (l : Launch) (G : GG) (C : CS) (M : MS) (h12 : zn G ≤ 12)  (x : Int32) : Ct l G yX4_lose cX4_lose 3 (some .int) 1 22 [.ref (zad G 0 0), .int x] C M (some (.int (losT (zn G) C x).1)) (losT (zn G) C x).2 M := by
  unfold losT
  rcases tape_cases h12 x with hb | ⟨t, ht, rfl, hb, htx⟩
  · rw [if_pos hb]; exact c_lose_b l G C M h12 hb
  · rw [if_neg hb, htx]; exact c_lose_1 l G C M h12 ht

