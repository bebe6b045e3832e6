/-! ===== the class: writing, reading and moving files; jobs ===== -/
theorem carL_r {d : Nat} : ∀ (k : Nat) (C : CS), (carL d k C).1 = 0 ∨ (carL d k C).1 = -4 := by
  intro k
  induction k with
  | zero => intro C; exact Or.inl rfl
  | succ k ih => intro C; unfold carL; split; exact ih _; exact Or.inr rfl
theorem carC_r (C : CS) (d t : Nat) : (carC C d t).1 = 0 ∨ (carC C d t).1 = -4 := by
  unfold carC carE
  split
  · exact Or.inl rfl
  · exact carL_r _ _
theorem wsL_ne {d t : Nat} {k j : Nat} {w : Int32} {C : CS} (h : w ≠ 0) : wsL d t k j w C = (w, C) := by
  cases k with
  | zero => rfl
  | succ k => unfold wsL; rw [if_pos h]
theorem mvL_ne {d1 t1 d2 t2 k a : Nat} {w : Int32} {C : CS} (h : w ≠ 0) : mvL d1 t1 d2 t2 k a w C = (w, C) := by
  cases k with
  | zero => rfl
  | succ k => unfold mvL; rw [if_pos h]
theorem wriC_0 {C : CS} {d t b a : Nat} (h : (wriC C d t b a).1 = 0) : cN C 5 t 3 < cap t := by
  unfold wriC at h
  split at h
  · exact absurd h (show ¬ ((-6 : Int32) = 0) by decide)
  · omega
theorem windL_r {d : Nat} : ∀ (k : Nat) (C : CS), (windL d k C).1 = 0 ∨ (windL d k C).1 = -4 := by
  intro k
  induction k with
  | zero => intro C; exact Or.inl rfl
  | succ k ih => intro C; unfold windL; split; exact ih _; exact Or.inr rfl
theorem pasC_r (C : CS) (d : Nat) : (pasC C d).1 = 0 ∨ (pasC C d).1 = -4 ∨ (pasC C d).1 = -5 := by
  unfold pasC; split
  · split
    · exact Or.inl rfl
    · exact Or.inr (Or.inl rfl)
  · exact Or.inr (Or.inr rfl)
/-- why a part of a job did not come to its end -/
abbrev failR (w : Int32) : Prop := w = 0 ∨ w = -3 ∨ w = -4 ∨ w = -5 ∨ w = -6 ∨ w = -7
theorem failR_of {w : Int32} (h : w = 0 ∨ w = -4 ∨ w = -5) : failR w := by rcases h with h | h | h <;> (subst h; decide)
theorem failR_neg {w : Int32} (h : failR w) (h0 : w ≠ 0) : w < 0 := by
  rcases h with h | h | h | h | h | h
  · exact absurd h h0
  all_goals (subst h; decide)
theorem wriC_r (C : CS) (d t b a : Nat) : failR (wriC C d t b a).1 := by
  have := pasC_r C d
  unfold wriC; split
  · show failR (-6); decide
  · split <;> (show failR (pasC C d).1; exact failR_of this)
theorem reaC_r (C : CS) (d t : Nat) : failR (reaC C d t).1 := by
  have := pasC_r C d
  unfold reaC; split
  · exact failR_of this
  · split
    · show failR (-7); decide
    · show failR (pasC C d).1; exact failR_of this
theorem wsL_r {d t : Nat} : ∀ (k j : Nat) (w : Int32) (C : CS), failR w → failR (wsL d t k j w C).1 := by
  intro k
  induction k with
  | zero => intro j w C h; exact h
  | succ k ih => intro j w C h; unfold wsL; split; exact h; exact ih _ _ _ (wriC_r _ _ _ _ _)
theorem mv2_r (C : CS) (d2 t2 t1 a : Nat) (w : Int32) (h : failR w) : failR (mv2 C d2 t2 t1 a w).1 := by unfold mv2; split; exact h; exact wriC_r _ _ _ _ _
theorem mvL_r {d1 t1 d2 t2 : Nat} : ∀ (k a : Nat) (w : Int32) (C : CS), failR w → failR (mvL d1 t1 d2 t2 k a w C).1 := by
  intro k
  induction k with
  | zero => intro a w C h; exact h
  | succ k ih => intro a w C h; unfold mvL; split; exact h; exact ih _ _ _ (mv2_r _ _ _ _ _ _ (reaC_r _ _ _))
theorem rfL_r {d t : Nat} : ∀ (k a : Nat) (w : Int32) (C : CS), failR w → failR (rfL d t k a w C).1 := by
  intro k
  induction k with
  | zero => intro a w C h; exact h
  | succ k ih => intro a w C h; unfold rfL; split; exact h; exact ih _ _ _ (reaC_r _ _ _)
theorem ltL_r {d t : Nat} : ∀ (k : Nat) (w : Int32) (C : CS), failR w → failR (ltL d t k w C).1 := by
  intro k
  induction k with
  | zero => intro w C h; exact h
  | succ k ih => intro w C h; unfold ltL; split; exact ih _ _ (reaC_r _ _ _); exact h
theorem windC_r (C : CS) (d q : Nat) : failR (windC C d q).1 := (windL_r (d := d) (q - cN C 3 d 8) C).elim (fun h => failR_of (Or.inl h)) (fun h => failR_of (Or.inr (Or.inl h)))
theorem ws1_r (C : CS) (d t h : Nat) : failR (ws1 C d t h).1 := wsL_r _ _ _ _ (windC_r _ _ _)
theorem mvW_r (C : CS) (d1 d2 p h : Nat) : failR (mvW C d1 d2 p h).1 := by unfold mvW; split <;> exact windC_r _ _ _
theorem mv1_r (C : CS) (d1 t1 d2 t2 p h : Nat) : failR (mv1 C d1 t1 d2 t2 p h).1 := mvL_r _ _ _ _ (mvW_r _ _ _ _ _)
theorem endC_nn {C : CS} {d t h : Nat} {w : Int32} (hw : failR w) (hn : ¬ (endC C d t h w).1 < 0) : w = 0 ∧ (endC C d t h w).1 = nI h := by
  unfold endC at hn ⊢
  split at hn
  · rename_i q; exact absurd (failR_neg hw q) hn
  · rename_i q; rw [if_neg q]; exact ⟨Classical.byContradiction q, rfl⟩
theorem ws1_0 {C : CS} {d t h : Nat} (h0 : (ws1 C d t h).1 = 0) (hs : 0 < cN C 5 12 3) : cN C 5 t 3 < cap t := by
  unfold ws1 at h0
  obtain ⟨k, hk⟩ : ∃ k, cN C 5 12 3 = k + 1 := ⟨cN C 5 12 3 - 1, by omega⟩
  rw [hk] at h0
  unfold wsL at h0
  split at h0
  · rename_i q; exact absurd h0 q
  · by_cases z : (wriC (windC C d h).2 d t 12 0).1 = 0
    · have := wriC_0 z
      rw [Sm_windC.1 5 t 3 (by decide)] at this
      exact this
    · rw [wsL_ne z] at h0; exact absurd h0 z
theorem wsC_nn {C : CS} {d t : Nat} (hs : 0 < cN C 5 12 3) (hn : ¬ (wsC C d t (cN C 5 t 3)).1 < 0) : ∃ h, h < 100 ∧ (wsC C d t (cN C 5 t 3)).1 = nI h := by
  obtain ⟨h1, h2⟩ := endC_nn (ws1_r _ _ _ _) hn
  have := ws1_0 h1 hs
  have := cap_le t
  exact ⟨_, by omega, h2⟩
theorem cop1_nn {C : CS} {d t : Nat} (hs : 0 < cN C 5 12 3) (hn : ¬ (cop1 C d t).1 < 0) : ∃ h, h < 100 ∧ (cop1 C d t).1 = nI h := by
  unfold cop1 at hn ⊢
  split at hn
  · rename_i q
    rcases carC_r C d t with z | z
    · exact absurd z q
    · rw [z] at hn; exact absurd (by decide) hn
  · rename_i q
    rw [if_neg q]
    exact wsC_nn (by rw [carC_N (by decide)]; exact hs) hn
theorem mv1_0 {C : CS} {d1 t1 d2 t2 p h : Nat} (h0 : (mv1 C d1 t1 d2 t2 p h).1 = 0) : cN C 5 t2 3 < cap t2 := by
  unfold mv1 at h0
  rw [show zN C t1 p + 2 = (zN C t1 p + 1) + 1 by omega] at h0
  unfold mvL at h0
  split at h0
  · rename_i q; exact absurd h0 q
  · by_cases z : (mv2 (reaC (mvW C d1 d2 p h).2 d1 t1).2 d2 t2 t1 p (reaC (mvW C d1 d2 p h).2 d1 t1).1).1 = 0
    · unfold mv2 at z
      split at z
      · rename_i q; exact absurd z q
      · have := wriC_0 z
        rw [Sm_rea.1 5 t2 3 (by decide), Sm_mvW.1 5 t2 3 (by decide)] at this
        exact this
    · rw [mvL_ne z] at h0; exact absurd h0 z
theorem mvC_nn {C : CS} {d1 t1 d2 t2 p : Nat} (hn : ¬ (mvC C d1 t1 d2 t2 p (cN C 5 t2 3)).1 < 0) : ∃ h, h < 100 ∧ (mvC C d1 t1 d2 t2 p (cN C 5 t2 3)).1 = nI h := by
  obtain ⟨h1, h2⟩ := endC_nn (mv1_r _ _ _ _ _ _ _) hn
  have := mv1_0 h1
  have := cap_le t2
  exact ⟨_, by omega, h2⟩
theorem mi1_nn {C : CS} {d1 t1 d2 t2 p : Nat} (hn : ¬ (mi1 C d1 t1 d2 t2 p).1 < 0) : ∃ h, h < 100 ∧ (mi1 C d1 t1 d2 t2 p).1 = nI h := by
  unfold mi1 at hn ⊢
  split at hn
  · rename_i q
    rcases carC_r C d2 t2 with z | z
    · exact absurd z q
    · rw [z] at hn; exact absurd (by decide) hn
  · rename_i q
    rw [if_neg q]
    exact mvC_nn hn
theorem miC_nn {C : CS} {d1 t1 t2 p : Nat} (hn : ¬ (miC C d1 t1 t2 p).1 < 0) : ∃ h, h < 100 ∧ (miC C d1 t1 t2 p).1 = nI h := by
  cases h : ndC C t2 with
  | none =>
    have e : (miC C d1 t1 t2 p).1 = -3 := by unfold miC; rw [h]
    rw [e] at hn; exact absurd (by decide) hn
  | some d =>
    have e : (miC C d1 t1 t2 p).1 = (mi1 C d1 t1 d t2 p).1 := by unfold miC; rw [h]
    rw [e] at hn ⊢
    exact mi1_nn hn
theorem mj1_nn {C : CS} {d t1 t2 p : Nat} (hn : ¬ (mj1 C d t1 p t2).1 < 0) : ∃ h, h < 100 ∧ (mj1 C d t1 p t2).1 = nI h := by
  unfold mj1 at hn ⊢
  split at hn
  · rename_i q
    rcases carC_r C d t1 with z | z
    · exact absurd z q
    · rw [z] at hn; exact absurd (by decide) hn
  · rename_i q
    rw [if_neg q]
    exact miC_nn hn
theorem cl_nI {h : Nat} (hh : h < 100) : (nI h).toNatClampNeg = h := nI_clamp (by omega)

theorem nd_n (l : Launch) (G : GG) (C : CS) (M : MS) {t : Nat} (ht : t < zn G) (hI : Iv C) (hT : ∀ d t, cM C d = some t → t < zn G) (hN : ndC C t = none) : Ct l G yX4_nearestDrive cX4_nearestDrive 5 (some (.object "TapeVault$Drive")) 2 41 [.ref (zad G 0 0), .ref (zad G 9 t)] C M (some .null) C M := by
  have h := c_X4_nearestDrive l G C M ht hI hT
  rw [hN] at h
  exact h
theorem nd_s (l : Launch) (G : GG) (C : CS) (M : MS) {t d : Nat} (ht : t < zn G) (hI : Iv C) (hT : ∀ d t, cM C d = some t → t < zn G) (hN : ndC C t = some d) : Ct l G yX4_nearestDrive cX4_nearestDrive 5 (some (.object "TapeVault$Drive")) 2 41 [.ref (zad G 0 0), .ref (zad G 9 t)] C M (some (.ref (zad G 3 d))) C M := by
  have h := c_X4_nearestDrive l G C M ht hI hT
  rw [hN] at h
  exact h

set_option maxHeartbeats 4000000 in
set_option maxRecDepth 100000 in
theorem c_X4_writeStaged (l : Launch) (G : GG) (C : CS) (M : MS) (h12 : zn G ≤ 12) {d t : Nat} (hd : d < 3) (ht : t < zn G) (hM : cM C d = some t) (hI : Iv C) {h : Nat} (hp : cN C 3 d 8 ≤ h) (hh : h ≤ 100) : Ct l G yX4_writeStaged cX4_writeStaged 5 (some .int) 4 86 [.ref (zad G 0 0), .ref (zad G 3 d), .int (nI h)] C M (some (.int ((wsC C d t h).1))) ((wsC C d t h).2) M := by
  refine Ct_i (by decide) (Nat.le_of_ble_eq_true rfl) (fun {p e s m args below meth c A Q ls} hC hW hl hE => ?_)
  have hx := hC.1
  have hb := hC.2.1
  have hl : lv_has ls 5 [(0, .ref (zad G 0 0)), (1, .ref (zad G 3 d)), (2, .int (nI h))] := hl
  have hcp12 := hI.1 12
  have hc12 := cap_12
  refine lv_aload_n hx hb dX4_writeStaged_0 rfl (lv_at hl 1 rfl) ?_
  refine lv_iload_n hx hb dX4_writeStaged_1 rfl (lv_at hl 2 rfl) ?_
  refine z_callV (As := [.int (nI h)]) (rest := []) (st1 := [.int ((windC C d h).1)]) hC hW (LL_3 hd) rfl rfl rfl (c_X1_windTo l G C M hd (q := h) hp (by omega)) mw_X1_windTo mv_X1_windTo mM_X4_183 ⟨Nat.le_of_ble_eq_true rfl, Nat.le_of_ble_eq_true rfl⟩ rfl rfl hl.1 (lv_room (Nat.le_of_ble_eq_true rfl)) dX4_writeStaged_2 rfl (fun H locs hW => ?_) ⟨Nat.zero_le _, Nat.zero_le _⟩
  obtain ⟨C1, eC1⟩ : ∃ z, z = (windC C d h).2 := ⟨_, rfl⟩
  rw [← eC1] at hW
  refine lv_istore_n (lv' := [(3, .int ((windC C d h).1)), (0, .ref (zad G 0 0)), (1, .ref (zad G 3 d)), (2, .int (nI h))]) hx hb dX4_writeStaged_5 rfl hl (by decide) rfl (fun ls hl => ?_)
  refine lv_iconst (v := 0) hx hb dX4_writeStaged_6 (by decide) ?_
  refine lv_istore (lv' := [(4, .int 0), (3, .int ((windC C d h).1)), (0, .ref (zad G 0 0)), (1, .ref (zad G 3 d)), (2, .int (nI h))]) hx hb dX4_writeStaged_7 hl (by decide) rfl (fun ls hl => ?_)
  have lp : ∀ (k : Nat) (j : Nat) (u : Int32) (Cj : CS), j + k = cN C 5 12 3 → Iv Cj → cM Cj d = some t → cN Cj 5 12 3 = cN C 5 12 3 → wsL d t k j u Cj = ws1 C d t h → ∀ (H : Heap) (locs : List Loc) (ls : Array Slot), Wd G s A s.heap H locs Cj M → lv_has ls 5 [(0, .ref (zad G 0 0)), (1, .ref (zad G 3 d)), (2, .int (nI h)), (3, .int u), (4, .int (nI j))] → W p l e { frames := 4, cells := 0, slots := 0, locals := 86 } s m args below meth c H locs 0 0 Q (F0 m 9 ls []) := by
    intro k
    induction k with
    | zero =>
      intro j u Cj hk hIj hMj hNj hD H locs ls hW hl
      refine lv_iload hx hb dX4_writeStaged_9 (lv_at hl 4 rfl) ?_
      refine lv_aload_n hx hb dX4_writeStaged_11 rfl (lv_at hl 0 rfl) ?_
      refine g0 (k := 3) (v := .ref (zad G 5 12)) hC hW (by decide) mF_X4_36 rfl dX4_writeStaged_12 ?_
      refine g5 (k := 3) (v := .int (nI (cN Cj 5 12 3))) hC hW (Or.inr rfl) (by decide) mF_X4_66 rfl dX4_writeStaged_15 ?_
      refine zc_ge (i := j) (j := cN Cj 5 12 3) (tgt := 42) hx hb rfl rfl (by omega) (by omega) dX4_writeStaged_18 (by decide) (fun h18 => ?_) (fun h18 => ?_)
      · refine lv_aload_n hx hb dX4_writeStaged_42 rfl (lv_at hl 1 rfl) ?_
        refine lv_iload_n hx hb dX4_writeStaged_43 rfl (lv_at hl 2 rfl) ?_
        refine lv_iload_n hx hb dX4_writeStaged_44 rfl (lv_at hl 3 rfl) ?_
        refine z_callV (As := [.int (nI h), .int u]) (rest := []) (st1 := [.int ((endC Cj d t h u).1)]) hC hW (LL_3 hd) rfl rfl rfl (c_X1_endWriting l G Cj M hd ht hMj hIj (h := h) (by omega) u) mw_X1_endWriting mv_X1_endWriting mM_X4_190 ⟨Nat.le_of_ble_eq_true rfl, Nat.le_of_ble_eq_true rfl⟩ rfl rfl hl.1 (lv_room (Nat.le_of_ble_eq_true rfl)) dX4_writeStaged_45 rfl (fun H locs hW => ?_) ⟨Nat.zero_le _, Nat.zero_le _⟩
        obtain ⟨C2, eC2⟩ : ∃ z, z = (endC Cj d t h u).2 := ⟨_, rfl⟩
        rw [← eC2] at hW
        have hD1 : ws1 C d t h = (u, Cj) := by rw [← hD]; rfl
        have hD2 : wsC C d t h = endC Cj d t h u := by unfold wsC; rw [hD1]
        rw [hD2, ← eC2] at hE
        exact hE hW rfl dX4_writeStaged_48
      · exact absurd h18 (by omega)
    | succ k ih =>
      intro j u Cj hk hIj hMj hNj hD H locs ls hW hl
      refine lv_iload hx hb dX4_writeStaged_9 (lv_at hl 4 rfl) ?_
      refine lv_aload_n hx hb dX4_writeStaged_11 rfl (lv_at hl 0 rfl) ?_
      refine g0 (k := 3) (v := .ref (zad G 5 12)) hC hW (by decide) mF_X4_36 rfl dX4_writeStaged_12 ?_
      refine g5 (k := 3) (v := .int (nI (cN Cj 5 12 3))) hC hW (Or.inr rfl) (by decide) mF_X4_66 rfl dX4_writeStaged_15 ?_
      refine zc_ge (i := j) (j := cN Cj 5 12 3) (tgt := 42) hx hb rfl rfl (by omega) (by omega) dX4_writeStaged_18 (by decide) (fun h18 => ?_) (fun h18 => ?_)
      · exact absurd h18 (by omega)
      · refine lv_iload_n hx hb dX4_writeStaged_21 rfl (lv_at hl 3 rfl) ?_
        refine lv_if_ne (tgt := 42) hx hb dX4_writeStaged_22 (by decide) (fun h22 => ?_) (fun h22 => ?_)
        · refine lv_aload_n hx hb dX4_writeStaged_42 rfl (lv_at hl 1 rfl) ?_
          refine lv_iload_n hx hb dX4_writeStaged_43 rfl (lv_at hl 2 rfl) ?_
          refine lv_iload_n hx hb dX4_writeStaged_44 rfl (lv_at hl 3 rfl) ?_
          refine z_callV (As := [.int (nI h), .int u]) (rest := []) (st1 := [.int ((endC Cj d t h u).1)]) hC hW (LL_3 hd) rfl rfl rfl (c_X1_endWriting l G Cj M hd ht hMj hIj (h := h) (by omega) u) mw_X1_endWriting mv_X1_endWriting mM_X4_190 ⟨Nat.le_of_ble_eq_true rfl, Nat.le_of_ble_eq_true rfl⟩ rfl rfl hl.1 (lv_room (Nat.le_of_ble_eq_true rfl)) dX4_writeStaged_45 rfl (fun H locs hW => ?_) ⟨Nat.zero_le _, Nat.zero_le _⟩
          obtain ⟨C3, eC3⟩ : ∃ z, z = (endC Cj d t h u).2 := ⟨_, rfl⟩
          rw [← eC3] at hW
          have hD1 : ws1 C d t h = (u, Cj) := by rw [← hD, wsL, if_pos h22]
          have hD2 : wsC C d t h = endC Cj d t h u := by unfold wsC; rw [hD1]
          rw [hD2, ← eC3] at hE
          exact hE hW rfl dX4_writeStaged_48
        · refine lv_aload_n hx hb dX4_writeStaged_25 rfl (lv_at hl 1 rfl) ?_
          refine lv_aload_n hx hb dX4_writeStaged_26 rfl (lv_at hl 0 rfl) ?_
          refine g0 (k := 3) (v := .ref (zad G 5 12)) hC hW (by decide) mF_X4_36 rfl dX4_writeStaged_27 ?_
          refine lv_iload hx hb dX4_writeStaged_30 (lv_at hl 4 rfl) ?_
          refine z_callV (As := [.ref (zad G 5 12), .int (nI j)]) (rest := []) (st1 := [.int ((wriC Cj d t 12 j).1)]) hC hW (LL_3 hd) rfl rfl rfl (c_X1_writeBlock l G Cj M hd ht hMj hIj (Or.inr rfl) (a := j) (by omega)) mw_X1_writeBlock mv_X1_writeBlock mM_X4_186 ⟨Nat.le_of_ble_eq_true rfl, Nat.le_of_ble_eq_true rfl⟩ rfl rfl hl.1 (lv_room (Nat.le_of_ble_eq_true rfl)) dX4_writeStaged_32 rfl (fun H locs hW => ?_) ⟨Nat.zero_le _, Nat.zero_le _⟩
          obtain ⟨C4, eC4⟩ : ∃ z, z = (wriC Cj d t 12 j).2 := ⟨_, rfl⟩
          rw [← eC4] at hW
          refine lv_istore_n (lv' := [(3, .int ((wriC Cj d t 12 j).1)), (0, .ref (zad G 0 0)), (1, .ref (zad G 3 d)), (2, .int (nI h)), (4, .int (nI j))]) hx hb dX4_writeStaged_35 rfl hl (by decide) rfl (fun ls hl => ?_)
          refine lv_iinc (k := 4) (v := nI (j + 1)) (lv' := [(4, .int (nI (j + 1))), (3, .int ((wriC Cj d t 12 j).1)), (0, .ref (zad G 0 0)), (1, .ref (zad G 3 d)), (2, .int (nI h))]) hx hb dX4_writeStaged_36 hl rfl (nI_inc _) (by decide) rfl (fun ls hl => ?_)
          refine lv_goto (tgt := 9) hx hb dX4_writeStaged_39 (by decide) ?_
          exact ih (j + 1) ((wriC Cj d t 12 j).1) C4 (by omega) (by rw [eC4]; exact wriC_I hIj) (by rw [eC4, wriC_M]; exact hMj) (by rw [eC4, wriC_N 5 12 3 (by omega) (by omega)]; exact hNj) (by rw [← hD, wsL, if_neg (fun q => q h22), eC4]) _ _ _ hW (lv_sub hl [2, 3, 4, 1, 0] rfl)
  exact lp (cN C 5 12 3) 0 ((windC C d h).1) C1 (by omega) (by rw [eC1]; exact Sm_windC.I hI) (by rw [eC1, Sm_windC.2.2]; exact hM) (by rw [eC1, Sm_windC.1 _ _ _ (by decide)]) (by rw [eC1]; rfl) _ _ _ hW (lv_sub hl [2, 3, 4, 1, 0] rfl)

set_option maxHeartbeats 4000000 in
set_option maxRecDepth 100000 in
theorem c_X4_readFile (l : Launch) (G : GG) (C : CS) (M : MS) (h12 : zn G ≤ 12) {d t : Nat} (hd : d < 3) (ht : t < zn G) (hM : cM C d = some t) (hI : Iv C) {h : Nat} (hp : cN C 3 d 8 ≤ h) (hh : h < 100) : Ct l G yX4_readFile cX4_readFile 8 (some .int) 3 62 [.ref (zad G 0 0), .ref (zad G 3 d), .ref (zad G 5 t), .int (nI h)] C M (some (.int ((rfC C d t h).1))) ((rfC C d t h).2) M := by
  refine Ct_i (by decide) (Nat.le_of_ble_eq_true rfl) (fun {p e s m args below meth c A Q ls} hC hW hl hE => ?_)
  have hx := hC.1
  have hb := hC.2.1
  have hl : lv_has ls 8 [(0, .ref (zad G 0 0)), (1, .ref (zad G 3 d)), (2, .ref (zad G 5 t)), (3, .int (nI h))] := hl
  have hz := kAt_sz hI t h
  refine lv_aload_n hx hb dX4_readFile_0 rfl (lv_at hl 0 rfl) ?_
  refine lv_iconst (v := 1) hx hb dX4_readFile_1 (by decide) ?_
  refine p0 (k := 7) (v := 1) hC hW (by decide) mF_X4_40 dX4_readFile_2 (fun _ eS H locs hW => ?_)
  subst eS
  refine lv_aload_n hx hb dX4_readFile_5 rfl (lv_at hl 2 rfl) ?_
  refine lv_iload_n hx hb dX4_readFile_6 rfl (lv_at hl 3 rfl) ?_
  refine z_callV (As := [.int (nI h)]) (rest := []) (st1 := [.int (kAt C 8 t h)]) hC hW (LL_5 (Or.inl ht)) rfl rfl rfl (c_X0_sizeAt l G (sF C 0 0 7 1) M (Or.inl ht) (hI.1 t) (a := h) (by omega)) mw_X0_sizeAt mv_X0_sizeAt mM_X4_126 ⟨Nat.le_of_ble_eq_true rfl, Nat.le_of_ble_eq_true rfl⟩ rfl rfl hl.1 (lv_room (Nat.le_of_ble_eq_true rfl)) dX4_readFile_7 rfl (fun H locs hW => ?_) ⟨Nat.zero_le _, Nat.zero_le _⟩
  refine z_top (y := nI (zN C t h)) (kAt_sz hI t h).1 ?_
  refine lv_istore (lv' := [(4, .int (nI (zN C t h))), (0, .ref (zad G 0 0)), (1, .ref (zad G 3 d)), (2, .ref (zad G 5 t)), (3, .int (nI h))]) hx hb dX4_readFile_10 hl (by decide) rfl (fun ls hl => ?_)
  refine lv_iload_n hx hb dX4_readFile_12 rfl (lv_at hl 4 rfl) ?_
  refine lv_iload hx hb dX4_readFile_13 (lv_at hl 0 rfl) ?_
  refine zi_add (i := h) (j := zN C t h) hx hb rfl rfl dX4_readFile_15 ?_
  refine lv_iconst (v := 1) hx hb dX4_readFile_16 (by decide) ?_
  refine zi_add (i := h + (zN C t h)) (j := 1) hx hb rfl rfl dX4_readFile_17 ?_
  refine lv_istore (lv' := [(5, .int (nI (h + (zN C t h) + 1))), (4, .int (nI (zN C t h))), (0, .ref (zad G 0 0)), (1, .ref (zad G 3 d)), (2, .ref (zad G 5 t)), (3, .int (nI h))]) hx hb dX4_readFile_18 hl (by decide) rfl (fun ls hl => ?_)
  refine lv_aload_n hx hb dX4_readFile_20 rfl (lv_at hl 3 rfl) ?_
  refine lv_iload_n hx hb dX4_readFile_21 rfl (lv_at hl 5 rfl) ?_
  refine z_callV (As := [.int (nI h)]) (rest := []) (st1 := [.int ((windC (sF C 0 0 7 1) d h).1)]) hC hW (LL_3 hd) rfl rfl rfl (c_X1_windTo l G (sF C 0 0 7 1) M hd (q := h) (by rw [cN_sF]; exact hp) (by omega)) mw_X1_windTo mv_X1_windTo mM_X4_183 ⟨Nat.le_of_ble_eq_true rfl, Nat.le_of_ble_eq_true rfl⟩ rfl rfl hl.1 (lv_room (Nat.le_of_ble_eq_true rfl)) dX4_readFile_22 rfl (fun H locs hW => ?_) ⟨Nat.zero_le _, Nat.zero_le _⟩
  obtain ⟨C1, eC1⟩ : ∃ z, z = (windC (sF C 0 0 7 1) d h).2 := ⟨_, rfl⟩
  rw [← eC1] at hW
  refine lv_istore (lv' := [(6, .int ((windC (sF C 0 0 7 1) d h).1)), (5, .int (nI (h + (zN C t h) + 1))), (4, .int (nI (zN C t h))), (0, .ref (zad G 0 0)), (1, .ref (zad G 3 d)), (2, .ref (zad G 5 t)), (3, .int (nI h))]) hx hb dX4_readFile_25 hl (by decide) rfl (fun ls hl => ?_)
  refine lv_iload_n hx hb dX4_readFile_27 rfl (lv_at hl 6 rfl) ?_
  refine lv_istore (lv' := [(7, .int (nI h)), (6, .int ((windC (sF C 0 0 7 1) d h).1)), (5, .int (nI (h + (zN C t h) + 1))), (4, .int (nI (zN C t h))), (0, .ref (zad G 0 0)), (1, .ref (zad G 3 d)), (2, .ref (zad G 5 t)), (3, .int (nI h))]) hx hb dX4_readFile_28 hl (by decide) rfl (fun ls hl => ?_)
  have hp1 : cN C1 3 d 8 ≤ h := by rw [eC1]; exact windC_pos (by rw [cN_sF]; exact hp)
  have lp : ∀ (k : Nat) (a : Nat) (u : Int32) (Cj : CS), a + k = h + zN C t h + 2 → Iv Cj → cM Cj d = some t → cN Cj 3 d 8 + k ≤ 2 ^ 30 → rfL d t k a u Cj = rf1 C d t h → ∀ (H : Heap) (locs : List Loc) (ls : Array Slot), Wd G s A s.heap H locs Cj M → lv_has ls 8 [(0, .ref (zad G 0 0)), (1, .ref (zad G 3 d)), (2, .ref (zad G 5 t)), (4, .int (nI (zN C t h))), (5, .int (nI (h + zN C t h + 1))), (6, .int u), (7, .int (nI a))] → W p l e { frames := 3, cells := 0, slots := 0, locals := 62 } s m args below meth c H locs 0 0 Q (F0 m 30 ls []) := by
    intro k
    induction k with
    | zero =>
      intro a u Cj hk hIj hMj hpj hD H locs ls hW hl
      refine lv_iload hx hb dX4_readFile_30 (lv_at hl 6 rfl) ?_
      refine lv_iload hx hb dX4_readFile_32 (lv_at hl 4 rfl) ?_
      refine zc_gt (i := a) (j := h + zN C t h + 1) (tgt := 87) hx hb rfl rfl (by omega) (by omega) dX4_readFile_34 (by decide) (fun h34 => ?_) (fun h34 => ?_)
      · refine lv_iload hx hb dX4_readFile_87 (lv_at hl 5 rfl) ?_
        refine lv_if_ne (tgt := 97) hx hb dX4_readFile_89 (by decide) (fun h89 => ?_) (fun h89 => ?_)
        · refine lv_iload hx hb dX4_readFile_97 (lv_at hl 5 rfl) ?_
          have hD1 : rf1 C d t h = (u, Cj) := by rw [← hD]; rfl
          have hD2 : rfC C d t h = (u, Cj) := by unfold rfC; rw [hD1]; show (if u ≠ 0 then u else nI (zN C t h), Cj) = _; rw [if_pos h89]
          rw [hD2] at hE
          exact hE hW rfl dX4_readFile_99
        · refine lv_iload hx hb dX4_readFile_92 (lv_at hl 3 rfl) ?_
          refine lv_goto (tgt := 99) hx hb dX4_readFile_94 (by decide) ?_
          have hD1 : rf1 C d t h = (u, Cj) := by rw [← hD]; rfl
          have hD2 : rfC C d t h = (nI (zN C t h), Cj) := by unfold rfC; rw [hD1]; show (if u ≠ 0 then u else nI (zN C t h), Cj) = _; rw [if_neg (fun q => q h89)]
          rw [hD2] at hE
          exact hE hW rfl dX4_readFile_99
      · exact absurd h34 (by omega)
    | succ k ih =>
      intro a u Cj hk hIj hMj hpj hD H locs ls hW hl
      refine lv_iload hx hb dX4_readFile_30 (lv_at hl 6 rfl) ?_
      refine lv_iload hx hb dX4_readFile_32 (lv_at hl 4 rfl) ?_
      refine zc_gt (i := a) (j := h + zN C t h + 1) (tgt := 87) hx hb rfl rfl (by omega) (by omega) dX4_readFile_34 (by decide) (fun h34 => ?_) (fun h34 => ?_)
      · exact absurd h34 (by omega)
      · refine lv_iload hx hb dX4_readFile_37 (lv_at hl 5 rfl) ?_
        refine lv_if_ne (tgt := 87) hx hb dX4_readFile_39 (by decide) (fun h39 => ?_) (fun h39 => ?_)
        · refine lv_iload hx hb dX4_readFile_87 (lv_at hl 5 rfl) ?_
          refine lv_if_ne (tgt := 97) hx hb dX4_readFile_89 (by decide) (fun h89 => ?_) (fun h89 => ?_)
          · refine lv_iload hx hb dX4_readFile_97 (lv_at hl 5 rfl) ?_
            have hD1 : rf1 C d t h = (u, Cj) := by rw [← hD, rfL, if_pos h39]
            have hD2 : rfC C d t h = (u, Cj) := by unfold rfC; rw [hD1]; show (if u ≠ 0 then u else nI (zN C t h), Cj) = _; rw [if_pos h89]
            rw [hD2] at hE
            exact hE hW rfl dX4_readFile_99
          · refine lv_iload hx hb dX4_readFile_92 (lv_at hl 3 rfl) ?_
            refine lv_goto (tgt := 99) hx hb dX4_readFile_94 (by decide) ?_
            have hD1 : rf1 C d t h = (u, Cj) := by rw [← hD, rfL, if_pos h39]
            have hD2 : rfC C d t h = (nI (zN C t h), Cj) := by unfold rfC; rw [hD1]; show (if u ≠ 0 then u else nI (zN C t h), Cj) = _; rw [if_neg (fun q => q h89)]
            rw [hD2] at hE
            exact hE hW rfl dX4_readFile_99
        · refine lv_aload_n hx hb dX4_readFile_42 rfl (lv_at hl 1 rfl) ?_
          refine z_callV (As := []) (rest := []) (st1 := [.int ((reaC Cj d t).1)]) hC hW (LL_3 hd) rfl rfl rfl (c_X1_readBlock l G Cj M hd ht hMj (by omega)) mw_X1_readBlock mv_X1_readBlock mM_X4_197 ⟨Nat.le_of_ble_eq_true rfl, Nat.le_of_ble_eq_true rfl⟩ rfl rfl hl.1 (lv_room (Nat.le_of_ble_eq_true rfl)) dX4_readFile_43 rfl (fun H locs hW => ?_) ⟨Nat.zero_le _, Nat.zero_le _⟩
          obtain ⟨C2, eC2⟩ : ∃ z, z = (reaC Cj d t).2 := ⟨_, rfl⟩
          rw [← eC2] at hW
          have hIr : Iv C2 := by rw [eC2]; exact Sm_rea.I hIj
          refine lv_istore (lv' := [(6, .int ((reaC Cj d t).1)), (0, .ref (zad G 0 0)), (1, .ref (zad G 3 d)), (2, .ref (zad G 5 t)), (4, .int (nI (zN C t h))), (5, .int (nI (h + zN C t h + 1))), (7, .int (nI a))]) hx hb dX4_readFile_46 hl (by decide) rfl (fun ls hl => ?_)
          refine lv_iload hx hb dX4_readFile_48 (lv_at hl 0 rfl) ?_
          refine lv_if_ne (tgt := 81) hx hb dX4_readFile_50 (by decide) (fun h50 => ?_) (fun h50 => ?_)
          · refine lv_iinc (k := 6) (v := nI (a + 1)) (lv' := [(7, .int (nI (a + 1))), (6, .int ((reaC Cj d t).1)), (0, .ref (zad G 0 0)), (1, .ref (zad G 3 d)), (2, .ref (zad G 5 t)), (4, .int (nI (zN C t h))), (5, .int (nI (h + zN C t h + 1)))]) hx hb dX4_readFile_81 hl rfl (nI_inc _) (by decide) rfl (fun ls hl => ?_)
            refine lv_goto (tgt := 30) hx hb dX4_readFile_84 (by decide) ?_
            exact ih (a + 1) ((reaC Cj d t).1) C2 (by omega) hIr (by show cM C2 d = some t; rw [eC2, Sm_rea.2.2]; exact hMj) (by show cN C2 3 d 8 + k ≤ _; rw [eC2, reaC_2]; have := pasC_pos Cj d; omega) (by rw [← hD, rfL, if_neg (fun q => q h39), ← eC2]; congr 1; unfold rfS; rw [if_pos h50]) _ _ _ hW (lv_sub hl [2, 3, 4, 5, 6, 1, 0] rfl)
          · refine lv_aload_n hx hb dX4_readFile_53 rfl (lv_at hl 3 rfl) ?_
            refine lv_iload hx hb dX4_readFile_54 (lv_at hl 6 rfl) ?_
            refine z_callV (As := [.int (nI a)]) (rest := []) (st1 := [.int (kAt C2 6 t a)]) hC hW (LL_5 (Or.inl ht)) rfl rfl rfl (c_X0_kindAt l G C2 M (Or.inl ht) (hIr.1 t) (a := a) (by omega)) mw_X0_kindAt mv_X0_kindAt mM_X4_120 ⟨Nat.le_of_ble_eq_true rfl, Nat.le_of_ble_eq_true rfl⟩ rfl rfl hl.1 (lv_room (Nat.le_of_ble_eq_true rfl)) dX4_readFile_56 rfl (fun H locs hW => ?_) ⟨Nat.zero_le _, Nat.zero_le _⟩
            refine lv_iconst (v := 2) hx hb dX4_readFile_59 (by decide) ?_
            refine lv_icmp_ne (tgt := 81) hx hb dX4_readFile_60 (by decide) (fun h60 => ?_) (fun h60 => ?_)
            · refine lv_iinc (k := 6) (v := nI (a + 1)) (lv' := [(7, .int (nI (a + 1))), (6, .int ((reaC Cj d t).1)), (0, .ref (zad G 0 0)), (1, .ref (zad G 3 d)), (2, .ref (zad G 5 t)), (4, .int (nI (zN C t h))), (5, .int (nI (h + zN C t h + 1)))]) hx hb dX4_readFile_81 hl rfl (nI_inc _) (by decide) rfl (fun ls hl => ?_)
              refine lv_goto (tgt := 30) hx hb dX4_readFile_84 (by decide) ?_
              exact ih (a + 1) ((reaC Cj d t).1) C2 (by omega) hIr (by show cM C2 d = some t; rw [eC2, Sm_rea.2.2]; exact hMj) (by show cN C2 3 d 8 + k ≤ _; rw [eC2, reaC_2]; have := pasC_pos Cj d; omega) (by rw [← hD, rfL, if_neg (fun q => q h39), ← eC2]; congr 1; unfold rfS; rw [if_neg (fun q => q h50), if_neg h60]) _ _ _ hW (lv_sub hl [2, 3, 4, 5, 6, 1, 0] rfl)
            · refine lv_aload_n hx hb dX4_readFile_63 rfl (lv_at hl 1 rfl) ?_
              refine lv_bipush (v := 31) hx hb dX4_readFile_64 (by decide) ?_
              refine lv_aload_n hx hb dX4_readFile_66 rfl (lv_at hl 1 rfl) ?_
              refine g0 (k := 7) (v := .int (cF C2 0 0 7)) hC hW (by decide) mF_X4_40 rfl dX4_readFile_67 ?_
              refine lv_imul hx hb dX4_readFile_70 ?_
              refine lv_aload_n hx hb dX4_readFile_71 rfl (lv_at hl 3 rfl) ?_
              refine lv_iload hx hb dX4_readFile_72 (lv_at hl 6 rfl) ?_
              refine z_callV (As := [.int (nI a)]) (rest := [.int (31 * (cF C2 0 0 7)), .ref (zad G 0 0)]) (st1 := [.int (kAt C2 7 t a), .int (31 * (cF C2 0 0 7)), .ref (zad G 0 0)]) hC hW (LL_5 (Or.inl ht)) rfl rfl rfl (c_X0_valueAt l G C2 M (Or.inl ht) (hIr.1 t) (a := a) (by omega)) mw_X0_valueAt mv_X0_valueAt mM_X4_123 ⟨Nat.le_of_ble_eq_true rfl, Nat.le_of_ble_eq_true rfl⟩ rfl rfl hl.1 (lv_room (Nat.le_of_ble_eq_true rfl)) dX4_readFile_74 rfl (fun H locs hW => ?_) ⟨Nat.zero_le _, Nat.zero_le _⟩
              refine lv_iadd hx hb dX4_readFile_77 ?_
              refine p0 (k := 7) (v := (31 * (cF C2 0 0 7)) + (kAt C2 7 t a)) hC hW (by decide) mF_X4_40 dX4_readFile_78 (fun _ eS H locs hW => ?_)
              subst eS
              refine lv_iinc (k := 6) (v := nI (a + 1)) (lv' := [(7, .int (nI (a + 1))), (6, .int ((reaC Cj d t).1)), (0, .ref (zad G 0 0)), (1, .ref (zad G 3 d)), (2, .ref (zad G 5 t)), (4, .int (nI (zN C t h))), (5, .int (nI (h + zN C t h + 1)))]) hx hb dX4_readFile_81 hl rfl (nI_inc _) (by decide) rfl (fun ls hl => ?_)
              refine lv_goto (tgt := 30) hx hb dX4_readFile_84 (by decide) ?_
              exact ih (a + 1) ((reaC Cj d t).1) (sF C2 0 0 7 ((31 * (cF C2 0 0 7)) + (kAt C2 7 t a))) (by omega) (Iv_F hIr) (by show cM C2 d = some t; rw [eC2, Sm_rea.2.2]; exact hMj) (by show cN C2 3 d 8 + k ≤ _; rw [eC2, reaC_2]; have := pasC_pos Cj d; omega) (by rw [← hD, rfL, if_neg (fun q => q h39), ← eC2]; congr 1; unfold rfS; rw [if_neg (fun q => q h50), if_pos h60]) _ _ _ hW (lv_sub hl [2, 3, 4, 5, 6, 1, 0] rfl)
  exact lp (zN C t h + 2) h ((windC (sF C 0 0 7 1) d h).1) C1 (by omega) (by rw [eC1]; exact Sm_windC.I (Iv_F hI)) (by rw [eC1, Sm_windC.2.2]; exact hM) (by omega) (by rw [eC1]; rfl) _ _ _ hW (lv_sub hl [4, 5, 6, 3, 2, 1, 0] rfl)

theorem mvW_pos {C : CS} {d1 d2 p h : Nat} (hdd : d1 ≠ d2) (hp : cN C 3 d1 8 ≤ p) : cN (mvW C d1 d2 p h).2 3 d1 8 ≤ p := by
  unfold mvW; split
  · exact windC_pos hp
  · unfold windC; rw [windL_N3 d1 8 (Or.inl hdd)]; exact windC_pos hp

set_option maxHeartbeats 4000000 in
set_option maxRecDepth 100000 in
theorem c_X4_moveBlocks (l : Launch) (G : GG) (C : CS) (M : MS) {d1 t1 d2 t2 : Nat} (hd1 : d1 < 3) (ht1 : t1 < zn G) (hM1 : cM C d1 = some t1) (hd2 : d2 < 3) (ht2 : t2 < zn G) (hM2 : cM C d2 = some t2) (hdd : d1 ≠ d2) (hI : Iv C) {q h : Nat} (hp1 : cN C 3 d1 8 ≤ q) (hq : q < 100) (hp2 : cN C 3 d2 8 ≤ h) (hh : h ≤ 100) : Ct l G yX4_moveBlocks cX4_moveBlocks 9 (some .int) 4 86 [.ref (zad G 0 0), .ref (zad G 3 d1), .ref (zad G 5 t1), .int (nI q), .ref (zad G 3 d2), .int (nI h)] C M (some (.int ((mvC C d1 t1 d2 t2 q h).1))) ((mvC C d1 t1 d2 t2 q h).2) M := by
  refine Ct_i (by decide) (Nat.le_of_ble_eq_true rfl) (fun {p e s m args below meth c A Q ls} hC hW hl hE => ?_)
  have hx := hC.1
  have hb := hC.2.1
  have hl : lv_has ls 9 [(0, .ref (zad G 0 0)), (1, .ref (zad G 3 d1)), (2, .ref (zad G 5 t1)), (3, .int (nI q)), (4, .ref (zad G 3 d2)), (5, .int (nI h))] := hl
  have hz := kAt_sz hI t1 q
  refine lv_iload_n hx hb dX4_moveBlocks_0 rfl (lv_at hl 3 rfl) ?_
  refine lv_aload_n hx hb dX4_moveBlocks_1 rfl (lv_at hl 2 rfl) ?_
  refine lv_iload_n hx hb dX4_moveBlocks_2 rfl (lv_at hl 3 rfl) ?_
  refine z_callV (As := [.int (nI q)]) (rest := [.int (nI q)]) (st1 := [.int (kAt C 8 t1 q), .int (nI q)]) hC hW (LL_5 (Or.inl ht1)) rfl rfl rfl (c_X0_sizeAt l G C M (Or.inl ht1) (hI.1 t1) (a := q) (by omega)) mw_X0_sizeAt mv_X0_sizeAt mM_X4_126 ⟨Nat.le_of_ble_eq_true rfl, Nat.le_of_ble_eq_true rfl⟩ rfl rfl hl.1 (lv_room (Nat.le_of_ble_eq_true rfl)) dX4_moveBlocks_3 rfl (fun H locs hW => ?_) ⟨Nat.zero_le _, Nat.zero_le _⟩
  refine z_top (y := nI (zN C t1 q)) (kAt_sz hI t1 q).1 ?_
  refine zi_add (i := q) (j := zN C t1 q) hx hb rfl rfl dX4_moveBlocks_6 ?_
  refine lv_iconst (v := 1) hx hb dX4_moveBlocks_7 (by decide) ?_
  refine zi_add (i := q + (zN C t1 q)) (j := 1) hx hb rfl rfl dX4_moveBlocks_8 ?_
  refine lv_istore (lv' := [(6, .int (nI (q + (zN C t1 q) + 1))), (0, .ref (zad G 0 0)), (1, .ref (zad G 3 d1)), (2, .ref (zad G 5 t1)), (3, .int (nI q)), (4, .ref (zad G 3 d2)), (5, .int (nI h))]) hx hb dX4_moveBlocks_9 hl (by decide) rfl (fun ls hl => ?_)
  have J : ∀ (u0 : Int32) (C0 : CS), mvW C d1 d2 q h = (u0, C0) → ∀ (H : Heap) (locs : List Loc) (ls : Array Slot), Wd G s A s.heap H locs C0 M → lv_has ls 9 [(0, .ref (zad G 0 0)), (1, .ref (zad G 3 d1)), (2, .ref (zad G 5 t1)), (3, .int (nI q)), (4, .ref (zad G 3 d2)), (5, .int (nI h)), (6, .int (nI (q + zN C t1 q + 1))), (7, .int u0)] → W p l e { frames := 4, cells := 0, slots := 0, locals := 86 } s m args below meth c H locs 0 0 Q (F0 m 32 ls []) := by
    intro u0 C0 hQ H locs ls hW hl
    have hI0 : Iv C0 := by have := Sm_mvW (C := C) (d1 := d1) (d2 := d2) (p := q) (h := h); rw [hQ] at this; exact this.I hI
    have hm0 : cM C0 = cM C := by have := Sm_mvW (C := C) (d1 := d1) (d2 := d2) (p := q) (h := h); rw [hQ] at this; exact this.2.2
    have hp0 : cN C0 3 d1 8 ≤ q := by have := mvW_pos (C := C) (d1 := d1) (d2 := d2) (p := q) (h := h) hdd hp1; rw [hQ] at this; exact this
    refine lv_iload_n hx hb dX4_moveBlocks_32 rfl (lv_at hl 3 rfl) ?_
    refine lv_istore (lv' := [(8, .int (nI q)), (0, .ref (zad G 0 0)), (1, .ref (zad G 3 d1)), (2, .ref (zad G 5 t1)), (3, .int (nI q)), (4, .ref (zad G 3 d2)), (5, .int (nI h)), (6, .int (nI (q + zN C t1 q + 1))), (7, .int u0)]) hx hb dX4_moveBlocks_33 hl (by decide) rfl (fun ls hl => ?_)
    have lp : ∀ (k : Nat) (a : Nat) (u : Int32) (Cj : CS), a + k = q + zN C t1 q + 2 → Iv Cj → cM Cj = cM C → cN Cj 3 d1 8 + k ≤ 2 ^ 30 → mvL d1 t1 d2 t2 k a u Cj = mv1 C d1 t1 d2 t2 q h → ∀ (H : Heap) (locs : List Loc) (ls : Array Slot), Wd G s A s.heap H locs Cj M → lv_has ls 9 [(1, .ref (zad G 3 d1)), (2, .ref (zad G 5 t1)), (4, .ref (zad G 3 d2)), (5, .int (nI h)), (6, .int (nI (q + zN C t1 q + 1))), (7, .int u), (8, .int (nI a))] → W p l e { frames := 4, cells := 0, slots := 0, locals := 86 } s m args below meth c H locs 0 0 Q (F0 m 35 ls []) := by
      intro k
      induction k with
      | zero =>
        intro a u Cj hk hIj hmj hpj hD H locs ls hW hl
        have hMj2 : cM Cj d2 = some t2 := by rw [hmj]; exact hM2
        refine lv_iload hx hb dX4_moveBlocks_35 (lv_at hl 6 rfl) ?_
        refine lv_iload hx hb dX4_moveBlocks_37 (lv_at hl 4 rfl) ?_
        refine zc_gt (i := a) (j := q + zN C t1 q + 1) (tgt := 74) hx hb rfl rfl (by omega) (by omega) dX4_moveBlocks_39 (by decide) (fun h39 => ?_) (fun h39 => ?_)
        · refine lv_aload hx hb dX4_moveBlocks_74 (lv_at hl 2 rfl) ?_
          refine lv_iload hx hb dX4_moveBlocks_76 (lv_at hl 3 rfl) ?_
          refine lv_iload hx hb dX4_moveBlocks_78 (lv_at hl 5 rfl) ?_
          refine z_callV (As := [.int (nI h), .int u]) (rest := []) (st1 := [.int ((endC Cj d2 t2 h u).1)]) hC hW (LL_3 hd2) rfl rfl rfl (c_X1_endWriting l G Cj M hd2 ht2 hMj2 hIj (h := h) (by omega) u) mw_X1_endWriting mv_X1_endWriting mM_X4_190 ⟨Nat.le_of_ble_eq_true rfl, Nat.le_of_ble_eq_true rfl⟩ rfl rfl hl.1 (lv_room (Nat.le_of_ble_eq_true rfl)) dX4_moveBlocks_80 rfl (fun H locs hW => ?_) ⟨Nat.zero_le _, Nat.zero_le _⟩
          obtain ⟨C1, eC1⟩ : ∃ z, z = (endC Cj d2 t2 h u).2 := ⟨_, rfl⟩
          rw [← eC1] at hW
          have hD1 : mv1 C d1 t1 d2 t2 q h = (u, Cj) := by rw [← hD]; rfl
          have hD2 : mvC C d1 t1 d2 t2 q h = endC Cj d2 t2 h u := by unfold mvC; rw [hD1]
          rw [hD2, ← eC1] at hE
          exact hE hW rfl dX4_moveBlocks_83
        · exact absurd h39 (by omega)
      | succ k ih =>
        intro a u Cj hk hIj hmj hpj hD H locs ls hW hl
        have hMj1 : cM Cj d1 = some t1 := by rw [hmj]; exact hM1
        have hMj2 : cM Cj d2 = some t2 := by rw [hmj]; exact hM2
        refine lv_iload hx hb dX4_moveBlocks_35 (lv_at hl 6 rfl) ?_
        refine lv_iload hx hb dX4_moveBlocks_37 (lv_at hl 4 rfl) ?_
        refine zc_gt (i := a) (j := q + zN C t1 q + 1) (tgt := 74) hx hb rfl rfl (by omega) (by omega) dX4_moveBlocks_39 (by decide) (fun h39 => ?_) (fun h39 => ?_)
        · exact absurd h39 (by omega)
        · refine lv_iload hx hb dX4_moveBlocks_42 (lv_at hl 5 rfl) ?_
          refine lv_if_ne (tgt := 74) hx hb dX4_moveBlocks_44 (by decide) (fun h44 => ?_) (fun h44 => ?_)
          · refine lv_aload hx hb dX4_moveBlocks_74 (lv_at hl 2 rfl) ?_
            refine lv_iload hx hb dX4_moveBlocks_76 (lv_at hl 3 rfl) ?_
            refine lv_iload hx hb dX4_moveBlocks_78 (lv_at hl 5 rfl) ?_
            refine z_callV (As := [.int (nI h), .int u]) (rest := []) (st1 := [.int ((endC Cj d2 t2 h u).1)]) hC hW (LL_3 hd2) rfl rfl rfl (c_X1_endWriting l G Cj M hd2 ht2 hMj2 hIj (h := h) (by omega) u) mw_X1_endWriting mv_X1_endWriting mM_X4_190 ⟨Nat.le_of_ble_eq_true rfl, Nat.le_of_ble_eq_true rfl⟩ rfl rfl hl.1 (lv_room (Nat.le_of_ble_eq_true rfl)) dX4_moveBlocks_80 rfl (fun H locs hW => ?_) ⟨Nat.zero_le _, Nat.zero_le _⟩
            obtain ⟨C2, eC2⟩ : ∃ z, z = (endC Cj d2 t2 h u).2 := ⟨_, rfl⟩
            rw [← eC2] at hW
            have hD1 : mv1 C d1 t1 d2 t2 q h = (u, Cj) := by rw [← hD, mvL, if_pos h44]
            have hD2 : mvC C d1 t1 d2 t2 q h = endC Cj d2 t2 h u := by unfold mvC; rw [hD1]
            rw [hD2, ← eC2] at hE
            exact hE hW rfl dX4_moveBlocks_83
          · refine lv_aload_n hx hb dX4_moveBlocks_47 rfl (lv_at hl 0 rfl) ?_
            refine z_callV (As := []) (rest := []) (st1 := [.int ((reaC Cj d1 t1).1)]) hC hW (LL_3 hd1) rfl rfl rfl (c_X1_readBlock l G Cj M hd1 ht1 hMj1 (by omega)) mw_X1_readBlock mv_X1_readBlock mM_X4_197 ⟨Nat.le_of_ble_eq_true rfl, Nat.le_of_ble_eq_true rfl⟩ rfl rfl hl.1 (lv_room (Nat.le_of_ble_eq_true rfl)) dX4_moveBlocks_48 rfl (fun H locs hW => ?_) ⟨Nat.zero_le _, Nat.zero_le _⟩
            obtain ⟨C3, eC3⟩ : ∃ z, z = (reaC Cj d1 t1).2 := ⟨_, rfl⟩
            rw [← eC3] at hW
            refine lv_istore (lv' := [(7, .int ((reaC Cj d1 t1).1)), (1, .ref (zad G 3 d1)), (2, .ref (zad G 5 t1)), (4, .ref (zad G 3 d2)), (5, .int (nI h)), (6, .int (nI (q + zN C t1 q + 1))), (8, .int (nI a))]) hx hb dX4_moveBlocks_51 hl (by decide) rfl (fun ls hl => ?_)
            refine lv_iload hx hb dX4_moveBlocks_53 (lv_at hl 0 rfl) ?_
            refine lv_if_ne (tgt := 68) hx hb dX4_moveBlocks_55 (by decide) (fun h55 => ?_) (fun h55 => ?_)
            · refine lv_iinc (k := 6) (v := nI (a + 1)) (lv' := [(8, .int (nI (a + 1))), (7, .int ((reaC Cj d1 t1).1)), (1, .ref (zad G 3 d1)), (2, .ref (zad G 5 t1)), (4, .ref (zad G 3 d2)), (5, .int (nI h)), (6, .int (nI (q + zN C t1 q + 1)))]) hx hb dX4_moveBlocks_68 hl rfl (nI_inc _) (by decide) rfl (fun ls hl => ?_)
              refine lv_goto (tgt := 35) hx hb dX4_moveBlocks_71 (by decide) ?_
              exact ih (a + 1) ((reaC Cj d1 t1).1) C3 (by omega) (by rw [eC3]; exact Sm_rea.I hIj) (by rw [eC3, Sm_rea.2.2]; exact hmj) (by rw [eC3, reaC_2]; have := pasC_pos Cj d1; omega) (by rw [← hD, mvL, if_neg (fun q => q h44), ← eC3]; unfold mv2; rw [if_pos h55]) _ _ _ hW (lv_sub hl [2, 3, 4, 5, 6, 1, 0] rfl)
            · refine lv_aload hx hb dX4_moveBlocks_58 (lv_at hl 3 rfl) ?_
              refine lv_aload_n hx hb dX4_moveBlocks_60 rfl (lv_at hl 2 rfl) ?_
              refine lv_iload hx hb dX4_moveBlocks_61 (lv_at hl 6 rfl) ?_
              refine z_callV (As := [.ref (zad G 5 t1), .int (nI a)]) (rest := []) (st1 := [.int ((wriC C3 d2 t2 t1 a).1)]) hC hW (LL_3 hd2) rfl rfl rfl (c_X1_writeBlock l G C3 M hd2 ht2 (by rw [eC3, Sm_rea.2.2]; exact hMj2) (by rw [eC3]; exact Sm_rea.I hIj) (Or.inl ht1) (a := a) (by omega)) mw_X1_writeBlock mv_X1_writeBlock mM_X4_186 ⟨Nat.le_of_ble_eq_true rfl, Nat.le_of_ble_eq_true rfl⟩ rfl rfl hl.1 (lv_room (Nat.le_of_ble_eq_true rfl)) dX4_moveBlocks_63 rfl (fun H locs hW => ?_) ⟨Nat.zero_le _, Nat.zero_le _⟩
              obtain ⟨C4, eC4⟩ : ∃ z, z = (wriC C3 d2 t2 t1 a).2 := ⟨_, rfl⟩
              rw [← eC4] at hW
              refine lv_istore (lv' := [(7, .int ((wriC C3 d2 t2 t1 a).1)), (1, .ref (zad G 3 d1)), (2, .ref (zad G 5 t1)), (4, .ref (zad G 3 d2)), (5, .int (nI h)), (6, .int (nI (q + zN C t1 q + 1))), (8, .int (nI a))]) hx hb dX4_moveBlocks_66 hl (by decide) rfl (fun ls hl => ?_)
              refine lv_iinc (k := 6) (v := nI (a + 1)) (lv' := [(8, .int (nI (a + 1))), (7, .int ((wriC C3 d2 t2 t1 a).1)), (1, .ref (zad G 3 d1)), (2, .ref (zad G 5 t1)), (4, .ref (zad G 3 d2)), (5, .int (nI h)), (6, .int (nI (q + zN C t1 q + 1)))]) hx hb dX4_moveBlocks_68 hl rfl (nI_inc _) (by decide) rfl (fun ls hl => ?_)
              refine lv_goto (tgt := 35) hx hb dX4_moveBlocks_71 (by decide) ?_
              exact ih (a + 1) ((wriC C3 d2 t2 t1 a).1) C4 (by omega) (by rw [eC4]; exact wriC_I (by rw [eC3]; exact Sm_rea.I hIj)) (by rw [eC4, wriC_M, eC3, Sm_rea.2.2]; exact hmj) (by rw [eC4, wriC_N 3 d1 8 (by omega) (by omega), eC3, reaC_2]; have := pasC_pos Cj d1; omega) (by rw [← hD, mvL, if_neg (fun q => q h44), ← eC3]; unfold mv2; rw [if_neg (fun q => q h55), eC4]) _ _ _ hW (lv_sub hl [2, 3, 4, 5, 6, 1, 0] rfl)
    exact lp (zN C t1 q + 2) q u0 C0 (by omega) hI0 hm0 (by omega) (by unfold mv1; rw [hQ]) _ _ _ hW (lv_sub hl [2, 3, 5, 6, 7, 8, 0] rfl)
  refine lv_aload_n hx hb dX4_moveBlocks_11 rfl (lv_at hl 2 rfl) ?_
  refine lv_iload_n hx hb dX4_moveBlocks_12 rfl (lv_at hl 4 rfl) ?_
  refine z_callV (As := [.int (nI q)]) (rest := []) (st1 := [.int ((windC C d1 q).1)]) hC hW (LL_3 hd1) rfl rfl rfl (c_X1_windTo l G C M hd1 (q := q) hp1 (by omega)) mw_X1_windTo mv_X1_windTo mM_X4_183 ⟨Nat.le_of_ble_eq_true rfl, Nat.le_of_ble_eq_true rfl⟩ rfl rfl hl.1 (lv_room (Nat.le_of_ble_eq_true rfl)) dX4_moveBlocks_13 rfl (fun H locs hW => ?_) ⟨Nat.zero_le _, Nat.zero_le _⟩
  obtain ⟨C5, eC5⟩ : ∃ z, z = (windC C d1 q).2 := ⟨_, rfl⟩
  rw [← eC5] at hW
  refine lv_istore (lv' := [(7, .int ((windC C d1 q).1)), (6, .int (nI (q + (zN C t1 q) + 1))), (0, .ref (zad G 0 0)), (1, .ref (zad G 3 d1)), (2, .ref (zad G 5 t1)), (3, .int (nI q)), (4, .ref (zad G 3 d2)), (5, .int (nI h))]) hx hb dX4_moveBlocks_16 hl (by decide) rfl (fun ls hl => ?_)
  refine lv_iload hx hb dX4_moveBlocks_18 (lv_at hl 0 rfl) ?_
  refine lv_if_ne (tgt := 32) hx hb dX4_moveBlocks_20 (by decide) (fun h20 => ?_) (fun h20 => ?_)
  · exact J ((windC C d1 q).1) C5 (by unfold mvW; rw [if_pos h20, eC5]) _ _ _ hW (lv_sub hl [2, 3, 4, 5, 6, 7, 1, 0] rfl)
  · refine lv_aload hx hb dX4_moveBlocks_23 (lv_at hl 6 rfl) ?_
    refine lv_iload hx hb dX4_moveBlocks_25 (lv_at hl 7 rfl) ?_
    refine z_callV (As := [.int (nI h)]) (rest := []) (st1 := [.int ((windC C5 d2 h).1)]) hC hW (LL_3 hd2) rfl rfl rfl (c_X1_windTo l G C5 M hd2 (q := h) (by rw [eC5]; unfold windC; rw [windL_N3 d2 8 (Or.inl (Ne.symm hdd))]; exact hp2) (by omega)) mw_X1_windTo mv_X1_windTo mM_X4_183 ⟨Nat.le_of_ble_eq_true rfl, Nat.le_of_ble_eq_true rfl⟩ rfl rfl hl.1 (lv_room (Nat.le_of_ble_eq_true rfl)) dX4_moveBlocks_27 rfl (fun H locs hW => ?_) ⟨Nat.zero_le _, Nat.zero_le _⟩
    obtain ⟨C6, eC6⟩ : ∃ z, z = (windC C5 d2 h).2 := ⟨_, rfl⟩
    rw [← eC6] at hW
    refine lv_istore (lv' := [(7, .int ((windC C5 d2 h).1)), (6, .int (nI (q + (zN C t1 q) + 1))), (0, .ref (zad G 0 0)), (1, .ref (zad G 3 d1)), (2, .ref (zad G 5 t1)), (3, .int (nI q)), (4, .ref (zad G 3 d2)), (5, .int (nI h))]) hx hb dX4_moveBlocks_30 hl (by decide) rfl (fun ls hl => ?_)
    exact J ((windC C5 d2 h).1) C6 (by unfold mvW; rw [if_neg (fun q => q h20), eC6, eC5]) _ _ _ hW (lv_sub hl [2, 3, 4, 5, 6, 7, 1, 0] rfl)

