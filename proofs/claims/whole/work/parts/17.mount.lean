/-! ===== the reference: mount ===== -/
def oD (o : Option Nat) : Int32 := match o with
  | none => -1
  | some d => nI d
def dI : Nat → Int32
  | 0 => -1
  | k + 1 => nI k
theorem dI_dec (k : Nat) : nI k + Int32.ofInt (-1) = dI k := by
  cases k with
  | zero => decide
  | succ k => exact pk_m1 k
theorem mA_self {M : MS} {j i : Nat} {v : Int32} : mA (smA M j i v) j i = v := by rw [mA_smA, if_pos ⟨rfl, rfl⟩]
theorem mA_nj {M : MS} {j i j' i' : Nat} {v : Int32} (h : j' ≠ j) : mA (smA M j i v) j' i' = mA M j' i' := by rw [mA_smA, if_neg (fun q => h q.1)]
theorem mA_ni {M : MS} {j i j' i' : Nat} {v : Int32} (h : i' ≠ i) : mA (smA M j i v) j' i' = mA M j' i' := by rw [mA_smA, if_neg (fun q => h q.2)]
theorem smA_smA {M : MS} {j i : Nat} {v w : Int32} : smA (smA M j i v) j i w = smA M j i w := by
  refine Prod.ext rfl ?_
  funext j' i'
  show mA (smA (smA M j i v) j i w) j' i' = mA (smA M j i w) j' i'
  rw [mA_smA, mA_smA, mA_smA]
  by_cases h : j' = j ∧ i' = i
  · rw [if_pos h, if_pos h]
  · rw [if_neg h, if_neg h, if_neg h]
def mo0 (M : MS) (mm : Nat) : MS := smA (smA (smA M 15 mm (-1)) 18 mm 0) 17 mm 0
theorem mo0_A {M : MS} {mm j i : Nat} (h : j ≠ 15 ∧ j ≠ 17 ∧ j ≠ 18) : mA (mo0 M mm) j i = mA M j i := by unfold mo0; rw [mA_nj h.2.1, mA_nj h.2.2, mA_nj h.1]
theorem smA_id {M : MS} {j i : Nat} {v : Int32} (h : mA M j i = v) : smA M j i v = M := by
  refine Prod.ext rfl ?_
  funext j' i'
  show mA (smA M j i v) j' i' = mA M j' i'
  rw [mA_smA]
  split
  · rename_i q; rw [q.1, q.2, h]
  · rfl
theorem mo0_15 {M : MS} {mm : Nat} : mo0 M mm = smA (mo0 M mm) 15 mm (oD none) := (smA_id (by unfold mo0; rw [mA_nj (by decide), mA_nj (by decide), mA_self]; rfl)).symm
def mdS (M : MS) (h d : Nat) (o : Option Nat) : Option Nat := if mA M 10 d = 0 ∧ mA M 11 d = 0 then (match o with
  | none => some d
  | some b => if dist h d ≤ dist h b then some d else some b) else o
def mdL (M : MS) (h : Nat) : Nat → Option Nat → Option Nat
  | 0, o => o
  | k + 1, o => mdL M h k (mdS M h k o)
def mdC (M : MS) (h : Nat) : Option Nat := mdL M h 3 none
def mcL (mm : Nat) : Nat → Nat → MS → MS
  | 0, _, M => M
  | k + 1, c, M => if mF M 29 ≠ 0 then mcL mm k (c + 1) (smA (mwM M) 17 mm (nI (c + 1))) else mwM M
def moE (M : MS) (mm d t : Nat) : MS := smA (smA (smA (smA M 13 d (mA M 13 d + 1)) 3 t (mA M 3 t + 1)) 18 mm 1) 19 mm 0
def moB (M : MS) (mm t d : Nat) : MS := smA (smA (smA (mo0 M mm) 15 mm (nI d)) 10 d 1) 16 mm (nI t)
def moD (M : MS) (mm t h d : Nat) : MS := if mF (mcL mm (dist h d) 0 (moB M mm t d)) 30 = 0 then moE (mcL mm (dist h d) 0 (moB M mm t d)) mm d t else mcL mm (dist h d) 0 (moB M mm t d)
def moN (M : MS) (mm : Nat) : MS := smF (smA (mo0 M mm) 15 mm (-1)) 30 (-3)
def moS (M : MS) (mm t h : Nat) : MS := match mdC M h with
  | none => moN M mm
  | some d => moD M mm t h d

set_option maxHeartbeats 4000000 in
set_option maxRecDepth 100000 in
theorem c_X5_mount_f (l : Launch) (G : GG) (C : CS) (M : MS) {mm : Nat} (hm : mm < 2) (h0 : mF M 30 ≠ 0) {t : Nat} (ht : t < 12) : Ct l G yX5_mount cX5_mount 5 none 1 22 [.ref (zad G 12 0), .int (nI mm), .int (nI t)] C M none C (mo0 M mm) := by
  refine Ct_v (by decide) (Nat.le_of_ble_eq_true rfl) (fun {p e s m args below meth c A Q ls} hC hW hl hE => ?_)
  have hx := hC.1
  have hb := hC.2.1
  have hl : lv_has ls 5 [(0, .ref (zad G 12 0)), (1, .int (nI mm)), (2, .int (nI t))] := hl
  refine lv_aload_n hx hb dX5_mount_0 rfl (lv_at hl 0 rfl) ?_
  refine g12 (k := 15) (v := .ref (zad G 13 15)) hC hW (by decide) mF_X5_53 rfl dX5_mount_1 ?_
  refine lv_iload_n hx hb dX5_mount_4 rfl (lv_at hl 1 rfl) ?_
  refine lv_iconst (v := (-1)) hx hb dX5_mount_5 (by decide) ?_
  refine sm (i := mm) (n := 2) (v := (-1)) hC hW (by decide) rfl rfl (rfl) (by omega) dX5_mount_6 (fun _ eS H locs hW => ?_)
  subst eS
  refine lv_aload_n hx hb dX5_mount_7 rfl (lv_at hl 0 rfl) ?_
  refine g12 (k := 18) (v := .ref (zad G 13 18)) hC hW (by decide) mF_X5_62 rfl dX5_mount_8 ?_
  refine lv_iload_n hx hb dX5_mount_11 rfl (lv_at hl 1 rfl) ?_
  refine lv_iconst (v := 0) hx hb dX5_mount_12 (by decide) ?_
  refine smz (i := mm) (n := 2) (v := 0) hC hW (by decide) rfl rfl (rfl) (by omega) (by decide) dX5_mount_13 (fun _ eS H locs hW => ?_)
  subst eS
  refine lv_aload_n hx hb dX5_mount_14 rfl (lv_at hl 0 rfl) ?_
  refine g12 (k := 17) (v := .ref (zad G 13 17)) hC hW (by decide) mF_X5_59 rfl dX5_mount_15 ?_
  refine lv_iload_n hx hb dX5_mount_18 rfl (lv_at hl 1 rfl) ?_
  refine lv_iconst (v := 0) hx hb dX5_mount_19 (by decide) ?_
  refine sm (i := mm) (n := 2) (v := 0) hC hW (by decide) rfl rfl (rfl) (by omega) dX5_mount_20 (fun _ eS H locs hW => ?_)
  subst eS
  refine lv_aload_n hx hb dX5_mount_21 rfl (lv_at hl 0 rfl) ?_
  refine g12 (k := 30) (v := .int (mF M 30)) hC hW (by decide) mF_X5_82 rfl dX5_mount_22 ?_
  refine lv_if_eq (tgt := 29) hx hb dX5_mount_25 (by decide) (fun h25 => ?_) (fun h25 => ?_)
  · exact absurd h25 h0
  · have qM : smA (smA (smA M 15 mm (-1)) 18 mm 0) 17 mm 0 = mo0 M mm := by rfl
    rw [qM] at hW
    exact hE hW dX5_mount_28

set_option maxHeartbeats 4000000 in
set_option maxRecDepth 100000 in
theorem c_X5_mount_0 (l : Launch) (G : GG) (C : CS) (M : MS) {mm : Nat} (hm : mm < 2) (h0 : mF M 30 = 0) {t h : Nat} (ht : t < 12) (hh : mA M 1 t = nI h) (hh32 : h < 32) : Ct l G yX5_mount cX5_mount 5 none 1 22 [.ref (zad G 12 0), .int (nI mm), .int (nI t)] C M none C (moS M mm t h) := by
  refine Ct_v (by decide) (Nat.le_of_ble_eq_true rfl) (fun {p e s m args below meth c A Q ls} hC hW hl hE => ?_)
  have hx := hC.1
  have hb := hC.2.1
  have hl : lv_has ls 5 [(0, .ref (zad G 12 0)), (1, .int (nI mm)), (2, .int (nI t))] := hl
  refine lv_aload_n hx hb dX5_mount_0 rfl (lv_at hl 0 rfl) ?_
  refine g12 (k := 15) (v := .ref (zad G 13 15)) hC hW (by decide) mF_X5_53 rfl dX5_mount_1 ?_
  refine lv_iload_n hx hb dX5_mount_4 rfl (lv_at hl 1 rfl) ?_
  refine lv_iconst (v := (-1)) hx hb dX5_mount_5 (by decide) ?_
  refine sm (i := mm) (n := 2) (v := (-1)) hC hW (by decide) rfl rfl (rfl) (by omega) dX5_mount_6 (fun _ eS H locs hW => ?_)
  subst eS
  refine lv_aload_n hx hb dX5_mount_7 rfl (lv_at hl 0 rfl) ?_
  refine g12 (k := 18) (v := .ref (zad G 13 18)) hC hW (by decide) mF_X5_62 rfl dX5_mount_8 ?_
  refine lv_iload_n hx hb dX5_mount_11 rfl (lv_at hl 1 rfl) ?_
  refine lv_iconst (v := 0) hx hb dX5_mount_12 (by decide) ?_
  refine smz (i := mm) (n := 2) (v := 0) hC hW (by decide) rfl rfl (rfl) (by omega) (by decide) dX5_mount_13 (fun _ eS H locs hW => ?_)
  subst eS
  refine lv_aload_n hx hb dX5_mount_14 rfl (lv_at hl 0 rfl) ?_
  refine g12 (k := 17) (v := .ref (zad G 13 17)) hC hW (by decide) mF_X5_59 rfl dX5_mount_15 ?_
  refine lv_iload_n hx hb dX5_mount_18 rfl (lv_at hl 1 rfl) ?_
  refine lv_iconst (v := 0) hx hb dX5_mount_19 (by decide) ?_
  refine sm (i := mm) (n := 2) (v := 0) hC hW (by decide) rfl rfl (rfl) (by omega) dX5_mount_20 (fun _ eS H locs hW => ?_)
  subst eS
  refine lv_aload_n hx hb dX5_mount_21 rfl (lv_at hl 0 rfl) ?_
  refine g12 (k := 30) (v := .int (mF M 30)) hC hW (by decide) mF_X5_82 rfl dX5_mount_22 ?_
  refine lv_if_eq (tgt := 29) hx hb dX5_mount_25 (by decide) (fun h25 => ?_) (fun h25 => ?_)
  · refine lv_iconst (v := 2) hx hb dX5_mount_29 (by decide) ?_
    refine lv_istore_n (lv' := [(3, .int 2), (0, .ref (zad G 12 0)), (1, .int (nI mm)), (2, .int (nI t))]) hx hb dX5_mount_30 rfl hl (by decide) rfl (fun ls hl => ?_)
    have lp : ∀ (k : Nat) (o : Option Nat) (Mj : MS), k ≤ 3 → (∀ q, o = some q → q < 3) → Mj = smA (mo0 M mm) 15 mm (oD o) → mdL M h k o = mdC M h → ∀ (H : Heap) (locs : List Loc) (ls : Array Slot), Wd G s A s.heap H locs C Mj → lv_has ls 5 [(0, .ref (zad G 12 0)), (1, .int (nI mm)), (2, .int (nI t)), (3, .int (dI k))] → W p l e { frames := 1, cells := 0, slots := 0, locals := 22 } s m args below meth c H locs 0 0 Q (F0 m 31 ls []) := by
      intro k
      induction k with
      | zero =>
        intro o Mj hk ho hMj hD H locs ls hW hl
        have e10 : ∀ i, mA Mj 10 i = mA M 10 i := fun i => by rw [hMj, mA_nj (by decide), mo0_A (by decide)]
        have e11 : ∀ i, mA Mj 11 i = mA M 11 i := fun i => by rw [hMj, mA_nj (by decide), mo0_A (by decide)]
        have e1 : ∀ i, mA Mj 1 i = mA M 1 i := fun i => by rw [hMj, mA_nj (by decide), mo0_A (by decide)]
        have hl : lv_has ls 5 [(0, .ref (zad G 12 0)), (1, .int (nI mm)), (2, .int (nI t)), (3, .int (-1))] := hl
        cases o with
        | none =>
          refine lv_iload_n hx hb dX5_mount_31 rfl (lv_at hl 3 rfl) ?_
          refine lv_if_lt (tgt := 124) hx hb dX5_mount_32 (by decide) (fun _ => ?_) (fun q => absurd (by decide) q)
          refine lv_aload_n hx hb dX5_mount_124 rfl (lv_at hl 0 rfl) ?_
          refine g12 (k := 15) (v := .ref (zad G 13 15)) hC hW (by decide) mF_X5_53 rfl dX5_mount_125 ?_
          refine lv_iload_n hx hb dX5_mount_128 rfl (lv_at hl 1 rfl) ?_
          refine am (i := mm) (n := 2) hC hW (by decide) rfl rfl (rfl) (by omega) dX5_mount_129 ?_
          refine z_top (y := -1) (by rw [hMj]; exact mA_self) ?_
          refine lv_if_ge (tgt := 140) hx hb dX5_mount_130 (by decide) (fun q => absurd q (by decide)) (fun _ => ?_)
          refine lv_aload_n hx hb dX5_mount_133 rfl (lv_at hl 0 rfl) ?_
          refine lv_bipush (v := (-3)) hx hb dX5_mount_134 (by decide) ?_
          refine p12 (k := 30) (v := (-3)) hC hW (by decide) mF_X5_82 dX5_mount_136 (fun _ eS H locs hW => ?_)
          subst eS
          have hD3 : moS M mm t h = smF Mj 30 (-3) := by unfold moS; rw [show mdC M h = none from hD.symm]; show moN M mm = _; unfold moN; rw [hMj]; rfl
          rw [hD3] at hE
          exact hE hW dX5_mount_139
        | some b =>
          have hb3 : b < 3 := ho b rfl
          have hbl := dist_le hh32 hb3
          refine lv_iload_n hx hb dX5_mount_31 rfl (lv_at hl 3 rfl) ?_
          refine lv_if_lt (tgt := 124) hx hb dX5_mount_32 (by decide) (fun _ => ?_) (fun q => absurd (by decide) q)
          refine lv_aload_n hx hb dX5_mount_124 rfl (lv_at hl 0 rfl) ?_
          refine g12 (k := 15) (v := .ref (zad G 13 15)) hC hW (by decide) mF_X5_53 rfl dX5_mount_125 ?_
          refine lv_iload_n hx hb dX5_mount_128 rfl (lv_at hl 1 rfl) ?_
          refine am (i := mm) (n := 2) hC hW (by decide) rfl rfl (rfl) (by omega) dX5_mount_129 ?_
          refine z_top (y := nI b) (by rw [hMj]; exact mA_self) ?_
          refine zf_ge (i := b) (tgt := 140) hx hb rfl (by omega) dX5_mount_130 (by decide) ?_
          refine lv_aload_n hx hb dX5_mount_140 rfl (lv_at hl 0 rfl) ?_
          refine g12 (k := 10) (v := .ref (zad G 13 10)) hC hW (by decide) mF_X5_38 rfl dX5_mount_141 ?_
          refine lv_aload_n hx hb dX5_mount_144 rfl (lv_at hl 0 rfl) ?_
          refine g12 (k := 15) (v := .ref (zad G 13 15)) hC hW (by decide) mF_X5_53 rfl dX5_mount_145 ?_
          refine lv_iload_n hx hb dX5_mount_148 rfl (lv_at hl 1 rfl) ?_
          refine am (i := mm) (n := 2) hC hW (by decide) rfl rfl (rfl) (by omega) dX5_mount_149 ?_
          refine z_top (y := nI b) (by rw [hMj]; exact mA_self) ?_
          refine lv_iconst (v := 1) hx hb dX5_mount_150 (by decide) ?_
          refine smz (i := b) (n := 3) (v := 1) hC hW (by decide) rfl rfl (rfl) (by omega) (by decide) dX5_mount_151 (fun _ eS H locs hW => ?_)
          subst eS
          refine lv_aload_n hx hb dX5_mount_152 rfl (lv_at hl 0 rfl) ?_
          refine g12 (k := 16) (v := .ref (zad G 13 16)) hC hW (by decide) mF_X5_56 rfl dX5_mount_153 ?_
          refine lv_iload_n hx hb dX5_mount_156 rfl (lv_at hl 1 rfl) ?_
          refine lv_iload_n hx hb dX5_mount_157 rfl (lv_at hl 2 rfl) ?_
          refine sm (i := mm) (n := 2) (v := nI t) hC hW (by decide) rfl rfl (rfl) (by omega) dX5_mount_158 (fun _ eS H locs hW => ?_)
          subst eS
          have hNd : mdC M h = some b := hD.symm
          have hMB : smA (smA Mj 10 b 1) 16 mm (nI t) = moB M mm t b := by unfold moB; rw [hMj]; rfl
          have hw0 : mF (smA (smA Mj 10 b 1) 16 mm (nI t)) 30 = 0 := by rw [hMB]; exact h0
          have hc0 : mA (smA (smA Mj 10 b 1) 16 mm (nI t)) 17 mm = nI 0 := by rw [hMB]; unfold moB; rw [mA_nj (by decide), mA_nj (by decide), mA_nj (by decide)]; unfold mo0; rw [mA_self]; rfl
          have h10 : mA (smA (smA Mj 10 b 1) 16 mm (nI t)) 1 t = nI h := by rw [hMB]; unfold moB; rw [mA_nj (by decide), mA_nj (by decide), mA_nj (by decide), mo0_A (by decide)]; exact hh
          have h150 : mA (smA (smA Mj 10 b 1) 16 mm (nI t)) 15 mm = nI b := by rw [hMB]; unfold moB; rw [mA_nj (by decide), mA_nj (by decide), mA_self]
          have lp2 : ∀ (k : Nat) (cj : Nat) (Mc : MS), cj + k = dist h b → mF Mc 30 = 0 → mA Mc 17 mm = nI cj → mA Mc 1 t = nI h → mA Mc 15 mm = nI b → mcL mm k cj Mc = mcL mm (dist h b) 0 (moB M mm t b) → ∀ (H : Heap) (locs : List Loc) (ls : Array Slot), Wd G s A s.heap H locs C Mc → lv_has ls 5 [(0, .ref (zad G 12 0)), (1, .int (nI mm)), (2, .int (nI t))] → W p l e { frames := 1, cells := 0, slots := 0, locals := 22 } s m args below meth c H locs 0 0 Q (F0 m 159 ls []) := by
            intro k
            induction k with
            | zero =>
              intro cj Mc hk2 hw hc h1c h15c hD2 H locs ls hW hl
              refine lv_aload_n hx hb dX5_mount_159 rfl (lv_at hl 0 rfl) ?_
              refine g12 (k := 17) (v := .ref (zad G 13 17)) hC hW (by decide) mF_X5_59 rfl dX5_mount_160 ?_
              refine lv_iload_n hx hb dX5_mount_163 rfl (lv_at hl 1 rfl) ?_
              refine am (i := mm) (n := 2) hC hW (by decide) rfl rfl (rfl) (by omega) dX5_mount_164 ?_
              refine z_top (y := nI cj) (hc) ?_
              refine lv_aload_n hx hb dX5_mount_165 rfl (lv_at hl 0 rfl) ?_
              refine g12 (k := 1) (v := .ref (zad G 13 1)) hC hW (by decide) mF_X5_7 rfl dX5_mount_166 ?_
              refine lv_iload_n hx hb dX5_mount_169 rfl (lv_at hl 2 rfl) ?_
              refine am (i := t) (n := 12) hC hW (by decide) rfl rfl (rfl) (by omega) dX5_mount_170 ?_
              refine z_top (y := nI h) (h1c) ?_
              refine lv_aload_n hx hb dX5_mount_171 rfl (lv_at hl 0 rfl) ?_
              refine g12 (k := 15) (v := .ref (zad G 13 15)) hC hW (by decide) mF_X5_53 rfl dX5_mount_172 ?_
              refine lv_iload_n hx hb dX5_mount_175 rfl (lv_at hl 1 rfl) ?_
              refine am (i := mm) (n := 2) hC hW (by decide) rfl rfl (rfl) (by omega) dX5_mount_176 ?_
              refine z_top (y := nI b) (h15c) ?_
              refine z_callS (rest := [.int (nI cj)]) (st1 := [.int (nI (dist h b)), .int (nI cj)]) hC hW (c_X5_distance l G C Mc (h := h) (d := b) hh32 (hb3)) mw_X5_distance mT_X5_distance mM_X5_88 ⟨Nat.le_of_ble_eq_true rfl, Nat.le_of_ble_eq_true rfl⟩ rfl rfl hl.1 (lv_room (Nat.le_of_ble_eq_true rfl)) dX5_mount_177 rfl (fun H locs hW => ?_) ⟨Nat.zero_le _, Nat.zero_le _⟩
              refine zc_ge (i := cj) (j := dist h b) (tgt := 203) hx hb rfl rfl (by omega) (by omega) dX5_mount_180 (by decide) (fun h180 => ?_) (fun h180 => ?_)
              · refine lv_aload_n hx hb dX5_mount_203 rfl (lv_at hl 0 rfl) ?_
                refine g12 (k := 30) (v := .int (mF Mc 30)) hC hW (by decide) mF_X5_82 rfl dX5_mount_204 ?_
                refine lv_if_ne (tgt := 249) hx hb dX5_mount_207 (by decide) (fun h207 => ?_) (fun h207 => ?_)
                · exact absurd hw h207
                · refine lv_aload_n hx hb dX5_mount_210 rfl (lv_at hl 0 rfl) ?_
                  refine g12 (k := 13) (v := .ref (zad G 13 13)) hC hW (by decide) mF_X5_47 rfl dX5_mount_211 ?_
                  refine lv_aload_n hx hb dX5_mount_214 rfl (lv_at hl 0 rfl) ?_
                  refine g12 (k := 15) (v := .ref (zad G 13 15)) hC hW (by decide) mF_X5_53 rfl dX5_mount_215 ?_
                  refine lv_iload_n hx hb dX5_mount_218 rfl (lv_at hl 1 rfl) ?_
                  refine am (i := mm) (n := 2) hC hW (by decide) rfl rfl (rfl) (by omega) dX5_mount_219 ?_
                  refine z_top (y := nI b) (h15c) ?_
                  refine lv_dup2_11 hx hb dX5_mount_220 rfl rfl ?_
                  refine am (i := b) (n := 3) hC hW (by decide) rfl rfl (rfl) (by omega) dX5_mount_221 ?_
                  refine lv_iconst (v := 1) hx hb dX5_mount_222 (by decide) ?_
                  refine lv_iadd hx hb dX5_mount_223 ?_
                  refine sm (i := b) (n := 3) (v := (mA Mc 13 b) + 1) hC hW (by decide) rfl rfl (rfl) (by omega) dX5_mount_224 (fun _ eS H locs hW => ?_)
                  subst eS
                  refine lv_aload_n hx hb dX5_mount_225 rfl (lv_at hl 0 rfl) ?_
                  refine g12 (k := 3) (v := .ref (zad G 13 3)) hC hW (by decide) mF_X5_16 rfl dX5_mount_226 ?_
                  refine lv_iload_n hx hb dX5_mount_229 rfl (lv_at hl 2 rfl) ?_
                  refine lv_dup2_11 hx hb dX5_mount_230 rfl rfl ?_
                  refine am (i := t) (n := 12) hC hW (by decide) rfl rfl (rfl) (by omega) dX5_mount_231 ?_
                  refine lv_iconst (v := 1) hx hb dX5_mount_232 (by decide) ?_
                  refine lv_iadd hx hb dX5_mount_233 ?_
                  refine sm (i := t) (n := 12) (v := (mA Mc 3 t) + 1) hC hW (by decide) rfl rfl (rfl) (by omega) dX5_mount_234 (fun _ eS H locs hW => ?_)
                  subst eS
                  refine lv_aload_n hx hb dX5_mount_235 rfl (lv_at hl 0 rfl) ?_
                  refine g12 (k := 18) (v := .ref (zad G 13 18)) hC hW (by decide) mF_X5_62 rfl dX5_mount_236 ?_
                  refine lv_iload_n hx hb dX5_mount_239 rfl (lv_at hl 1 rfl) ?_
                  refine lv_iconst (v := 1) hx hb dX5_mount_240 (by decide) ?_
                  refine smz (i := mm) (n := 2) (v := 1) hC hW (by decide) rfl rfl (rfl) (by omega) (by decide) dX5_mount_241 (fun _ eS H locs hW => ?_)
                  subst eS
                  refine lv_aload_n hx hb dX5_mount_242 rfl (lv_at hl 0 rfl) ?_
                  refine g12 (k := 19) (v := .ref (zad G 13 19)) hC hW (by decide) mF_X5_65 rfl dX5_mount_243 ?_
                  refine lv_iload_n hx hb dX5_mount_246 rfl (lv_at hl 1 rfl) ?_
                  refine lv_iconst (v := 0) hx hb dX5_mount_247 (by decide) ?_
                  refine sm (i := mm) (n := 2) (v := 0) hC hW (by decide) rfl rfl (rfl) (by omega) dX5_mount_248 (fun _ eS H locs hW => ?_)
                  subst eS
                  have hL : mcL mm (dist h b) 0 (moB M mm t b) = Mc := by rw [← hD2]; rfl
                  have hD3 : moS M mm t h = smA (smA (smA (smA Mc 13 b ((mA Mc 13 b) + 1)) 3 t ((mA Mc 3 t) + 1)) 18 mm 1) 19 mm 0 := by unfold moS; rw [hNd]; show moD M mm t h b = _; unfold moD; rw [hL, if_pos hw]; rfl
                  rw [hD3] at hE
                  exact hE hW dX5_mount_249
              · exact absurd h180 (by omega)
            | succ k ih =>
              intro cj Mc hk2 hw hc h1c h15c hD2 H locs ls hW hl
              refine lv_aload_n hx hb dX5_mount_159 rfl (lv_at hl 0 rfl) ?_
              refine g12 (k := 17) (v := .ref (zad G 13 17)) hC hW (by decide) mF_X5_59 rfl dX5_mount_160 ?_
              refine lv_iload_n hx hb dX5_mount_163 rfl (lv_at hl 1 rfl) ?_
              refine am (i := mm) (n := 2) hC hW (by decide) rfl rfl (rfl) (by omega) dX5_mount_164 ?_
              refine z_top (y := nI cj) (hc) ?_
              refine lv_aload_n hx hb dX5_mount_165 rfl (lv_at hl 0 rfl) ?_
              refine g12 (k := 1) (v := .ref (zad G 13 1)) hC hW (by decide) mF_X5_7 rfl dX5_mount_166 ?_
              refine lv_iload_n hx hb dX5_mount_169 rfl (lv_at hl 2 rfl) ?_
              refine am (i := t) (n := 12) hC hW (by decide) rfl rfl (rfl) (by omega) dX5_mount_170 ?_
              refine z_top (y := nI h) (h1c) ?_
              refine lv_aload_n hx hb dX5_mount_171 rfl (lv_at hl 0 rfl) ?_
              refine g12 (k := 15) (v := .ref (zad G 13 15)) hC hW (by decide) mF_X5_53 rfl dX5_mount_172 ?_
              refine lv_iload_n hx hb dX5_mount_175 rfl (lv_at hl 1 rfl) ?_
              refine am (i := mm) (n := 2) hC hW (by decide) rfl rfl (rfl) (by omega) dX5_mount_176 ?_
              refine z_top (y := nI b) (h15c) ?_
              refine z_callS (rest := [.int (nI cj)]) (st1 := [.int (nI (dist h b)), .int (nI cj)]) hC hW (c_X5_distance l G C Mc (h := h) (d := b) hh32 (hb3)) mw_X5_distance mT_X5_distance mM_X5_88 ⟨Nat.le_of_ble_eq_true rfl, Nat.le_of_ble_eq_true rfl⟩ rfl rfl hl.1 (lv_room (Nat.le_of_ble_eq_true rfl)) dX5_mount_177 rfl (fun H locs hW => ?_) ⟨Nat.zero_le _, Nat.zero_le _⟩
              refine zc_ge (i := cj) (j := dist h b) (tgt := 203) hx hb rfl rfl (by omega) (by omega) dX5_mount_180 (by decide) (fun h180 => ?_) (fun h180 => ?_)
              · exact absurd h180 (by omega)
              · refine lv_aload_n hx hb dX5_mount_183 rfl (lv_at hl 0 rfl) ?_
                refine z_callV (As := []) (rest := []) (st1 := [.int (bI (mF Mc 29 ≠ 0))]) hC hW LL_12 rfl rfl rfl (c_X5_work_0 l G C Mc hw) mw_X5_work mv_X5_work mM_X5_92 ⟨Nat.le_of_ble_eq_true rfl, Nat.le_of_ble_eq_true rfl⟩ rfl rfl hl.1 (lv_room (Nat.le_of_ble_eq_true rfl)) dX5_mount_184 rfl (fun H locs hW => ?_) ⟨Nat.zero_le _, Nat.zero_le _⟩
                obtain ⟨M1, eM1⟩ : ∃ z_, z_ = mwM Mc := ⟨_, rfl⟩
                rw [← eM1] at hW
                have hA1 : mA M1 = mA Mc := by rw [eM1]; exact mwM_A Mc
                refine zb_eq (tgt := 203) hx hb (mF Mc 29 ≠ 0) rfl dX5_mount_187 (by decide) (fun h187 => ?_) (fun h187 => ?_)
                · refine lv_aload_n hx hb dX5_mount_203 rfl (lv_at hl 0 rfl) ?_
                  refine g12 (k := 30) (v := .int (mF M1 30)) hC hW (by decide) mF_X5_82 rfl dX5_mount_204 ?_
                  refine lv_if_ne (tgt := 249) hx hb dX5_mount_207 (by decide) (fun h207 => ?_) (fun h207 => ?_)
                  · have hL : mcL mm (dist h b) 0 (moB M mm t b) = M1 := by rw [← hD2, mcL, if_neg h187, eM1]
                    have hD3 : moS M mm t h = M1 := by unfold moS; rw [hNd]; show moD M mm t h b = _; unfold moD; rw [hL, if_neg h207]
                    rw [hD3] at hE
                    exact hE hW dX5_mount_249
                  · exact absurd h207 (by rw [eM1, mwM_c h187]; decide)
                · refine lv_aload_n hx hb dX5_mount_190 rfl (lv_at hl 0 rfl) ?_
                  refine g12 (k := 17) (v := .ref (zad G 13 17)) hC hW (by decide) mF_X5_59 rfl dX5_mount_191 ?_
                  refine lv_iload_n hx hb dX5_mount_194 rfl (lv_at hl 1 rfl) ?_
                  refine lv_dup2_11 hx hb dX5_mount_195 rfl rfl ?_
                  refine am (i := mm) (n := 2) hC hW (by decide) rfl rfl (rfl) (by omega) dX5_mount_196 ?_
                  refine z_top (y := nI cj) (by rw [hA1]; exact hc) ?_
                  refine lv_iconst (v := 1) hx hb dX5_mount_197 (by decide) ?_
                  refine zi_add (i := cj) (j := 1) hx hb rfl rfl dX5_mount_198 ?_
                  refine sm (i := mm) (n := 2) (v := nI (cj + 1)) hC hW (by decide) rfl rfl (rfl) (by omega) dX5_mount_199 (fun _ eS H locs hW => ?_)
                  subst eS
                  refine lv_goto (tgt := 159) hx hb dX5_mount_200 (by decide) ?_
                  exact ih (cj + 1) (smA M1 17 mm (nI (cj + 1))) (by omega) (by rw [mF_smA, eM1]; exact mwM_w hw h187) mA_self (by rw [mA_nj (by decide), hA1]; exact h1c) (by rw [mA_nj (by decide), hA1]; exact h15c) (by rw [← hD2, mcL, if_pos h187, eM1]) _ _ _ hW (lv_sub hl [0, 1, 2] rfl)
          exact lp2 (dist h b) 0 (smA (smA Mj 10 b 1) 16 mm (nI t)) (by omega) hw0 hc0 h10 h150 (by rw [hMB]) _ _ _ hW (lv_sub hl [0, 1, 2] rfl)
      | succ k ih =>
        intro o Mj hk ho hMj hD H locs ls hW hl
        have e10 : ∀ i, mA Mj 10 i = mA M 10 i := fun i => by rw [hMj, mA_nj (by decide), mo0_A (by decide)]
        have e11 : ∀ i, mA Mj 11 i = mA M 11 i := fun i => by rw [hMj, mA_nj (by decide), mo0_A (by decide)]
        have e1 : ∀ i, mA Mj 1 i = mA M 1 i := fun i => by rw [hMj, mA_nj (by decide), mo0_A (by decide)]
        have hk3 : k < 3 := by omega
        have hkl := dist_le hh32 hk3
        have hl : lv_has ls 5 [(0, .ref (zad G 12 0)), (1, .int (nI mm)), (2, .int (nI t)), (3, .int (nI k))] := hl
        cases o with
        | none =>
          refine lv_iload_n hx hb dX5_mount_31 rfl (lv_at hl 3 rfl) ?_
          refine zf_lt (i := k) (tgt := 124) hx hb rfl (by omega) dX5_mount_32 (by decide) ?_
          refine lv_aload_n hx hb dX5_mount_35 rfl (lv_at hl 0 rfl) ?_
          refine g12 (k := 10) (v := .ref (zad G 13 10)) hC hW (by decide) mF_X5_38 rfl dX5_mount_36 ?_
          refine lv_iload_n hx hb dX5_mount_39 rfl (lv_at hl 3 rfl) ?_
          refine amz (i := k) (n := 3) hC hW (by decide) rfl rfl (rfl) (by omega) dX5_mount_40 ?_
          refine lv_if_ne (tgt := 57) hx hb dX5_mount_41 (by decide) (fun h41 => ?_) (fun h41 => ?_)
          · refine lv_iconst (v := 0) hx hb dX5_mount_57 (by decide) ?_
            refine lv_istore (lv' := [(4, .int 0), (0, .ref (zad G 12 0)), (1, .int (nI mm)), (2, .int (nI t)), (3, .int (nI k))]) hx hb dX5_mount_58 hl (by decide) rfl (fun ls hl => ?_)
            refine lv_aload_n hx hb dX5_mount_60 rfl (lv_at hl 1 rfl) ?_
            refine g12 (k := 15) (v := .ref (zad G 13 15)) hC hW (by decide) mF_X5_53 rfl dX5_mount_61 ?_
            refine lv_iload_n hx hb dX5_mount_64 rfl (lv_at hl 2 rfl) ?_
            refine lv_iload hx hb dX5_mount_65 (lv_at hl 0 rfl) ?_
            refine lv_if_eq (tgt := 111) hx hb dX5_mount_67 (by decide) (fun _ => ?_) (fun q => absurd (by decide) q)
            refine lv_aload_n hx hb dX5_mount_111 rfl (lv_at hl 1 rfl) ?_
            refine g12 (k := 15) (v := .ref (zad G 13 15)) hC hW (by decide) mF_X5_53 rfl dX5_mount_112 ?_
            refine lv_iload_n hx hb dX5_mount_115 rfl (lv_at hl 2 rfl) ?_
            refine am (i := mm) (n := 2) hC hW (by decide) rfl rfl (rfl) (by omega) dX5_mount_116 ?_
            refine z_top (y := -1) (by rw [hMj]; exact mA_self) ?_
            refine sm (i := mm) (n := 2) (v := (-1)) hC hW (by decide) rfl rfl (rfl) (by omega) dX5_mount_117 (fun _ eS H locs hW => ?_)
            subst eS
            refine lv_iinc (k := 4) (v := dI k) (lv' := [(3, .int (dI k)), (4, .int 0), (0, .ref (zad G 12 0)), (1, .int (nI mm)), (2, .int (nI t))]) hx hb dX5_mount_118 hl rfl (dI_dec _) (by decide) rfl (fun ls hl => ?_)
            refine lv_goto (tgt := 31) hx hb dX5_mount_121 (by decide) ?_
            exact ih none (smA Mj 15 mm (-1)) (by omega) (fun q hq => by cases hq) (by rw [hMj]; exact smA_smA) (by rw [← hD, mdL]; unfold mdS; rw [if_neg (fun q => h41 (by rw [e10]; exact q.1))]) _ _ _ hW (lv_sub hl [2, 3, 4, 0] rfl)
          · refine lv_aload_n hx hb dX5_mount_44 rfl (lv_at hl 0 rfl) ?_
            refine g12 (k := 11) (v := .ref (zad G 13 11)) hC hW (by decide) mF_X5_41 rfl dX5_mount_45 ?_
            refine lv_iload_n hx hb dX5_mount_48 rfl (lv_at hl 3 rfl) ?_
            refine amz (i := k) (n := 3) hC hW (by decide) rfl rfl (rfl) (by omega) dX5_mount_49 ?_
            refine lv_if_ne (tgt := 57) hx hb dX5_mount_50 (by decide) (fun h50 => ?_) (fun h50 => ?_)
            · refine lv_iconst (v := 0) hx hb dX5_mount_57 (by decide) ?_
              refine lv_istore (lv' := [(4, .int 0), (0, .ref (zad G 12 0)), (1, .int (nI mm)), (2, .int (nI t)), (3, .int (nI k))]) hx hb dX5_mount_58 hl (by decide) rfl (fun ls hl => ?_)
              refine lv_aload_n hx hb dX5_mount_60 rfl (lv_at hl 1 rfl) ?_
              refine g12 (k := 15) (v := .ref (zad G 13 15)) hC hW (by decide) mF_X5_53 rfl dX5_mount_61 ?_
              refine lv_iload_n hx hb dX5_mount_64 rfl (lv_at hl 2 rfl) ?_
              refine lv_iload hx hb dX5_mount_65 (lv_at hl 0 rfl) ?_
              refine lv_if_eq (tgt := 111) hx hb dX5_mount_67 (by decide) (fun _ => ?_) (fun q => absurd (by decide) q)
              refine lv_aload_n hx hb dX5_mount_111 rfl (lv_at hl 1 rfl) ?_
              refine g12 (k := 15) (v := .ref (zad G 13 15)) hC hW (by decide) mF_X5_53 rfl dX5_mount_112 ?_
              refine lv_iload_n hx hb dX5_mount_115 rfl (lv_at hl 2 rfl) ?_
              refine am (i := mm) (n := 2) hC hW (by decide) rfl rfl (rfl) (by omega) dX5_mount_116 ?_
              refine z_top (y := -1) (by rw [hMj]; exact mA_self) ?_
              refine sm (i := mm) (n := 2) (v := (-1)) hC hW (by decide) rfl rfl (rfl) (by omega) dX5_mount_117 (fun _ eS H locs hW => ?_)
              subst eS
              refine lv_iinc (k := 4) (v := dI k) (lv' := [(3, .int (dI k)), (4, .int 0), (0, .ref (zad G 12 0)), (1, .int (nI mm)), (2, .int (nI t))]) hx hb dX5_mount_118 hl rfl (dI_dec _) (by decide) rfl (fun ls hl => ?_)
              refine lv_goto (tgt := 31) hx hb dX5_mount_121 (by decide) ?_
              exact ih none (smA Mj 15 mm (-1)) (by omega) (fun q hq => by cases hq) (by rw [hMj]; exact smA_smA) (by rw [← hD, mdL]; unfold mdS; rw [if_neg (fun q => h50 (by rw [e11]; exact q.2))]) _ _ _ hW (lv_sub hl [2, 3, 4, 0] rfl)
            · refine lv_iconst (v := 1) hx hb dX5_mount_53 (by decide) ?_
              refine lv_goto (tgt := 58) hx hb dX5_mount_54 (by decide) ?_
              refine lv_istore (lv' := [(4, .int 1), (0, .ref (zad G 12 0)), (1, .int (nI mm)), (2, .int (nI t)), (3, .int (nI k))]) hx hb dX5_mount_58 hl (by decide) rfl (fun ls hl => ?_)
              refine lv_aload_n hx hb dX5_mount_60 rfl (lv_at hl 1 rfl) ?_
              refine g12 (k := 15) (v := .ref (zad G 13 15)) hC hW (by decide) mF_X5_53 rfl dX5_mount_61 ?_
              refine lv_iload_n hx hb dX5_mount_64 rfl (lv_at hl 2 rfl) ?_
              refine lv_iload hx hb dX5_mount_65 (lv_at hl 0 rfl) ?_
              refine lv_if_eq (tgt := 111) hx hb dX5_mount_67 (by decide) (fun q => absurd q (by decide)) (fun _ => ?_)
              refine lv_aload_n hx hb dX5_mount_70 rfl (lv_at hl 1 rfl) ?_
              refine g12 (k := 15) (v := .ref (zad G 13 15)) hC hW (by decide) mF_X5_53 rfl dX5_mount_71 ?_
              refine lv_iload_n hx hb dX5_mount_74 rfl (lv_at hl 2 rfl) ?_
              refine am (i := mm) (n := 2) hC hW (by decide) rfl rfl (rfl) (by omega) dX5_mount_75 ?_
              refine z_top (y := -1) (by rw [hMj]; exact mA_self) ?_
              refine lv_if_lt (tgt := 107) hx hb dX5_mount_76 (by decide) (fun _ => ?_) (fun q => absurd (by decide) q)
              refine lv_iload_n hx hb dX5_mount_107 rfl (lv_at hl 4 rfl) ?_
              refine lv_goto (tgt := 117) hx hb dX5_mount_108 (by decide) ?_
              refine sm (i := mm) (n := 2) (v := nI k) hC hW (by decide) rfl rfl (rfl) (by omega) dX5_mount_117 (fun _ eS H locs hW => ?_)
              subst eS
              refine lv_iinc (k := 4) (v := dI k) (lv' := [(3, .int (dI k)), (4, .int 1), (0, .ref (zad G 12 0)), (1, .int (nI mm)), (2, .int (nI t))]) hx hb dX5_mount_118 hl rfl (dI_dec _) (by decide) rfl (fun ls hl => ?_)
              refine lv_goto (tgt := 31) hx hb dX5_mount_121 (by decide) ?_
              exact ih (some k) (smA Mj 15 mm (nI k)) (by omega) (fun q hq => by cases hq; omega) (by rw [hMj]; exact smA_smA) (by rw [← hD, mdL]; unfold mdS; rw [if_pos ⟨by rw [← e10]; exact h41, by rw [← e11]; exact h50⟩]) _ _ _ hW (lv_sub hl [2, 3, 4, 0] rfl)
        | some b =>
          have hb3 : b < 3 := ho b rfl
          have hbl := dist_le hh32 hb3
          refine lv_iload_n hx hb dX5_mount_31 rfl (lv_at hl 3 rfl) ?_
          refine zf_lt (i := k) (tgt := 124) hx hb rfl (by omega) dX5_mount_32 (by decide) ?_
          refine lv_aload_n hx hb dX5_mount_35 rfl (lv_at hl 0 rfl) ?_
          refine g12 (k := 10) (v := .ref (zad G 13 10)) hC hW (by decide) mF_X5_38 rfl dX5_mount_36 ?_
          refine lv_iload_n hx hb dX5_mount_39 rfl (lv_at hl 3 rfl) ?_
          refine amz (i := k) (n := 3) hC hW (by decide) rfl rfl (rfl) (by omega) dX5_mount_40 ?_
          refine lv_if_ne (tgt := 57) hx hb dX5_mount_41 (by decide) (fun h41 => ?_) (fun h41 => ?_)
          · refine lv_iconst (v := 0) hx hb dX5_mount_57 (by decide) ?_
            refine lv_istore (lv' := [(4, .int 0), (0, .ref (zad G 12 0)), (1, .int (nI mm)), (2, .int (nI t)), (3, .int (nI k))]) hx hb dX5_mount_58 hl (by decide) rfl (fun ls hl => ?_)
            refine lv_aload_n hx hb dX5_mount_60 rfl (lv_at hl 1 rfl) ?_
            refine g12 (k := 15) (v := .ref (zad G 13 15)) hC hW (by decide) mF_X5_53 rfl dX5_mount_61 ?_
            refine lv_iload_n hx hb dX5_mount_64 rfl (lv_at hl 2 rfl) ?_
            refine lv_iload hx hb dX5_mount_65 (lv_at hl 0 rfl) ?_
            refine lv_if_eq (tgt := 111) hx hb dX5_mount_67 (by decide) (fun _ => ?_) (fun q => absurd (by decide) q)
            refine lv_aload_n hx hb dX5_mount_111 rfl (lv_at hl 1 rfl) ?_
            refine g12 (k := 15) (v := .ref (zad G 13 15)) hC hW (by decide) mF_X5_53 rfl dX5_mount_112 ?_
            refine lv_iload_n hx hb dX5_mount_115 rfl (lv_at hl 2 rfl) ?_
            refine am (i := mm) (n := 2) hC hW (by decide) rfl rfl (rfl) (by omega) dX5_mount_116 ?_
            refine z_top (y := nI b) (by rw [hMj]; exact mA_self) ?_
            refine sm (i := mm) (n := 2) (v := nI b) hC hW (by decide) rfl rfl (rfl) (by omega) dX5_mount_117 (fun _ eS H locs hW => ?_)
            subst eS
            refine lv_iinc (k := 4) (v := dI k) (lv' := [(3, .int (dI k)), (4, .int 0), (0, .ref (zad G 12 0)), (1, .int (nI mm)), (2, .int (nI t))]) hx hb dX5_mount_118 hl rfl (dI_dec _) (by decide) rfl (fun ls hl => ?_)
            refine lv_goto (tgt := 31) hx hb dX5_mount_121 (by decide) ?_
            exact ih (some b) (smA Mj 15 mm (nI b)) (by omega) (fun q hq => by cases hq; omega) (by rw [hMj]; exact smA_smA) (by rw [← hD, mdL]; unfold mdS; rw [if_neg (fun q => h41 (by rw [e10]; exact q.1))]) _ _ _ hW (lv_sub hl [2, 3, 4, 0] rfl)
          · refine lv_aload_n hx hb dX5_mount_44 rfl (lv_at hl 0 rfl) ?_
            refine g12 (k := 11) (v := .ref (zad G 13 11)) hC hW (by decide) mF_X5_41 rfl dX5_mount_45 ?_
            refine lv_iload_n hx hb dX5_mount_48 rfl (lv_at hl 3 rfl) ?_
            refine amz (i := k) (n := 3) hC hW (by decide) rfl rfl (rfl) (by omega) dX5_mount_49 ?_
            refine lv_if_ne (tgt := 57) hx hb dX5_mount_50 (by decide) (fun h50 => ?_) (fun h50 => ?_)
            · refine lv_iconst (v := 0) hx hb dX5_mount_57 (by decide) ?_
              refine lv_istore (lv' := [(4, .int 0), (0, .ref (zad G 12 0)), (1, .int (nI mm)), (2, .int (nI t)), (3, .int (nI k))]) hx hb dX5_mount_58 hl (by decide) rfl (fun ls hl => ?_)
              refine lv_aload_n hx hb dX5_mount_60 rfl (lv_at hl 1 rfl) ?_
              refine g12 (k := 15) (v := .ref (zad G 13 15)) hC hW (by decide) mF_X5_53 rfl dX5_mount_61 ?_
              refine lv_iload_n hx hb dX5_mount_64 rfl (lv_at hl 2 rfl) ?_
              refine lv_iload hx hb dX5_mount_65 (lv_at hl 0 rfl) ?_
              refine lv_if_eq (tgt := 111) hx hb dX5_mount_67 (by decide) (fun _ => ?_) (fun q => absurd (by decide) q)
              refine lv_aload_n hx hb dX5_mount_111 rfl (lv_at hl 1 rfl) ?_
              refine g12 (k := 15) (v := .ref (zad G 13 15)) hC hW (by decide) mF_X5_53 rfl dX5_mount_112 ?_
              refine lv_iload_n hx hb dX5_mount_115 rfl (lv_at hl 2 rfl) ?_
              refine am (i := mm) (n := 2) hC hW (by decide) rfl rfl (rfl) (by omega) dX5_mount_116 ?_
              refine z_top (y := nI b) (by rw [hMj]; exact mA_self) ?_
              refine sm (i := mm) (n := 2) (v := nI b) hC hW (by decide) rfl rfl (rfl) (by omega) dX5_mount_117 (fun _ eS H locs hW => ?_)
              subst eS
              refine lv_iinc (k := 4) (v := dI k) (lv' := [(3, .int (dI k)), (4, .int 0), (0, .ref (zad G 12 0)), (1, .int (nI mm)), (2, .int (nI t))]) hx hb dX5_mount_118 hl rfl (dI_dec _) (by decide) rfl (fun ls hl => ?_)
              refine lv_goto (tgt := 31) hx hb dX5_mount_121 (by decide) ?_
              exact ih (some b) (smA Mj 15 mm (nI b)) (by omega) (fun q hq => by cases hq; omega) (by rw [hMj]; exact smA_smA) (by rw [← hD, mdL]; unfold mdS; rw [if_neg (fun q => h50 (by rw [e11]; exact q.2))]) _ _ _ hW (lv_sub hl [2, 3, 4, 0] rfl)
            · refine lv_iconst (v := 1) hx hb dX5_mount_53 (by decide) ?_
              refine lv_goto (tgt := 58) hx hb dX5_mount_54 (by decide) ?_
              refine lv_istore (lv' := [(4, .int 1), (0, .ref (zad G 12 0)), (1, .int (nI mm)), (2, .int (nI t)), (3, .int (nI k))]) hx hb dX5_mount_58 hl (by decide) rfl (fun ls hl => ?_)
              refine lv_aload_n hx hb dX5_mount_60 rfl (lv_at hl 1 rfl) ?_
              refine g12 (k := 15) (v := .ref (zad G 13 15)) hC hW (by decide) mF_X5_53 rfl dX5_mount_61 ?_
              refine lv_iload_n hx hb dX5_mount_64 rfl (lv_at hl 2 rfl) ?_
              refine lv_iload hx hb dX5_mount_65 (lv_at hl 0 rfl) ?_
              refine lv_if_eq (tgt := 111) hx hb dX5_mount_67 (by decide) (fun q => absurd q (by decide)) (fun _ => ?_)
              refine lv_aload_n hx hb dX5_mount_70 rfl (lv_at hl 1 rfl) ?_
              refine g12 (k := 15) (v := .ref (zad G 13 15)) hC hW (by decide) mF_X5_53 rfl dX5_mount_71 ?_
              refine lv_iload_n hx hb dX5_mount_74 rfl (lv_at hl 2 rfl) ?_
              refine am (i := mm) (n := 2) hC hW (by decide) rfl rfl (rfl) (by omega) dX5_mount_75 ?_
              refine z_top (y := nI b) (by rw [hMj]; exact mA_self) ?_
              refine zf_lt (i := b) (tgt := 107) hx hb rfl (by omega) dX5_mount_76 (by decide) ?_
              refine lv_aload_n hx hb dX5_mount_79 rfl (lv_at hl 1 rfl) ?_
              refine g12 (k := 1) (v := .ref (zad G 13 1)) hC hW (by decide) mF_X5_7 rfl dX5_mount_80 ?_
              refine lv_iload_n hx hb dX5_mount_83 rfl (lv_at hl 3 rfl) ?_
              refine am (i := t) (n := 12) hC hW (by decide) rfl rfl (rfl) (by omega) dX5_mount_84 ?_
              refine z_top (y := nI h) (by rw [e1]; exact hh) ?_
              refine lv_iload_n hx hb dX5_mount_85 rfl (lv_at hl 4 rfl) ?_
              refine z_callS (rest := [.int (nI mm), .ref (zad G 13 15)]) (st1 := [.int (nI (dist h k)), .int (nI mm), .ref (zad G 13 15)]) hC hW (c_X5_distance l G C Mj (h := h) (d := k) hh32 (by omega)) mw_X5_distance mT_X5_distance mM_X5_88 ⟨Nat.le_of_ble_eq_true rfl, Nat.le_of_ble_eq_true rfl⟩ rfl rfl hl.1 (lv_room (Nat.le_of_ble_eq_true rfl)) dX5_mount_86 rfl (fun H locs hW => ?_) ⟨Nat.zero_le _, Nat.zero_le _⟩
              refine lv_aload_n hx hb dX5_mount_89 rfl (lv_at hl 1 rfl) ?_
              refine g12 (k := 1) (v := .ref (zad G 13 1)) hC hW (by decide) mF_X5_7 rfl dX5_mount_90 ?_
              refine lv_iload_n hx hb dX5_mount_93 rfl (lv_at hl 3 rfl) ?_
              refine am (i := t) (n := 12) hC hW (by decide) rfl rfl (rfl) (by omega) dX5_mount_94 ?_
              refine z_top (y := nI h) (by rw [e1]; exact hh) ?_
              refine lv_aload_n hx hb dX5_mount_95 rfl (lv_at hl 1 rfl) ?_
              refine g12 (k := 15) (v := .ref (zad G 13 15)) hC hW (by decide) mF_X5_53 rfl dX5_mount_96 ?_
              refine lv_iload_n hx hb dX5_mount_99 rfl (lv_at hl 2 rfl) ?_
              refine am (i := mm) (n := 2) hC hW (by decide) rfl rfl (rfl) (by omega) dX5_mount_100 ?_
              refine z_top (y := nI b) (by rw [hMj]; exact mA_self) ?_
              refine z_callS (rest := [.int (nI (dist h k)), .int (nI mm), .ref (zad G 13 15)]) (st1 := [.int (nI (dist h b)), .int (nI (dist h k)), .int (nI mm), .ref (zad G 13 15)]) hC hW (c_X5_distance l G C Mj (h := h) (d := b) hh32 (hb3)) mw_X5_distance mT_X5_distance mM_X5_88 ⟨Nat.le_of_ble_eq_true rfl, Nat.le_of_ble_eq_true rfl⟩ rfl rfl hl.1 (lv_room (Nat.le_of_ble_eq_true rfl)) dX5_mount_101 rfl (fun H locs hW => ?_) ⟨Nat.zero_le _, Nat.zero_le _⟩
              refine zc_gt (i := dist h k) (j := dist h b) (tgt := 111) hx hb rfl rfl (by omega) (by omega) dX5_mount_104 (by decide) (fun h104 => ?_) (fun h104 => ?_)
              · refine lv_aload_n hx hb dX5_mount_111 rfl (lv_at hl 1 rfl) ?_
                refine g12 (k := 15) (v := .ref (zad G 13 15)) hC hW (by decide) mF_X5_53 rfl dX5_mount_112 ?_
                refine lv_iload_n hx hb dX5_mount_115 rfl (lv_at hl 2 rfl) ?_
                refine am (i := mm) (n := 2) hC hW (by decide) rfl rfl (rfl) (by omega) dX5_mount_116 ?_
                refine z_top (y := nI b) (by rw [hMj]; exact mA_self) ?_
                refine sm (i := mm) (n := 2) (v := nI b) hC hW (by decide) rfl rfl (rfl) (by omega) dX5_mount_117 (fun _ eS H locs hW => ?_)
                subst eS
                refine lv_iinc (k := 4) (v := dI k) (lv' := [(3, .int (dI k)), (4, .int 1), (0, .ref (zad G 12 0)), (1, .int (nI mm)), (2, .int (nI t))]) hx hb dX5_mount_118 hl rfl (dI_dec _) (by decide) rfl (fun ls hl => ?_)
                refine lv_goto (tgt := 31) hx hb dX5_mount_121 (by decide) ?_
                exact ih (some b) (smA Mj 15 mm (nI b)) (by omega) (fun q hq => by cases hq; omega) (by rw [hMj]; exact smA_smA) (by rw [← hD, mdL]; unfold mdS; rw [if_pos ⟨by rw [← e10]; exact h41, by rw [← e11]; exact h50⟩]; show _ = mdL M h k (if dist h k ≤ dist h b then some k else some b); rw [if_neg (by omega)]) _ _ _ hW (lv_sub hl [2, 3, 4, 0] rfl)
              · refine lv_iload_n hx hb dX5_mount_107 rfl (lv_at hl 4 rfl) ?_
                refine lv_goto (tgt := 117) hx hb dX5_mount_108 (by decide) ?_
                refine sm (i := mm) (n := 2) (v := nI k) hC hW (by decide) rfl rfl (rfl) (by omega) dX5_mount_117 (fun _ eS H locs hW => ?_)
                subst eS
                refine lv_iinc (k := 4) (v := dI k) (lv' := [(3, .int (dI k)), (4, .int 1), (0, .ref (zad G 12 0)), (1, .int (nI mm)), (2, .int (nI t))]) hx hb dX5_mount_118 hl rfl (dI_dec _) (by decide) rfl (fun ls hl => ?_)
                refine lv_goto (tgt := 31) hx hb dX5_mount_121 (by decide) ?_
                exact ih (some k) (smA Mj 15 mm (nI k)) (by omega) (fun q hq => by cases hq; omega) (by rw [hMj]; exact smA_smA) (by rw [← hD, mdL]; unfold mdS; rw [if_pos ⟨by rw [← e10]; exact h41, by rw [← e11]; exact h50⟩]; show _ = mdL M h k (if dist h k ≤ dist h b then some k else some b); rw [if_pos (by omega)]) _ _ _ hW (lv_sub hl [2, 3, 4, 0] rfl)
    exact lp 3 none (mo0 M mm) (Nat.le_refl 3) (fun q hq => by cases hq) mo0_15 rfl _ _ _ hW (lv_sub hl [1, 2, 3, 0] rfl)
  · exact absurd h0 h25

