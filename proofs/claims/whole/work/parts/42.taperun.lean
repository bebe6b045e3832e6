/-! ===== tape: a new one ===== -/
theorem va_nd_of : ∀ {l : List Nat}, l.Nodup → va_nd l = true := by
  intro l
  induction l with
  | nil => intro _; rfl
  | cons a l ih =>
    intro h
    have := List.nodup_cons.mp h
    unfold va_nd
    rw [decide_eq_true this.1, ih this.2]; rfl
theorem app_c {α : Type} (ws : List α) (x : α) : [ws.length].map (fun i => (ws ++ [x])[i]?) = [x].map some := by simp
theorem app_f {α : Type} (ws : List α) (x : α) : [ws.length].filterMap (fun i => (ws ++ [x])[i]?) = [x] := by simp
theorem app_r {α : Type} (ws : List α) (x : α) : (List.range ws.length).map (fun i => (ws ++ [x])[i]?) = ws.map some := by
  apply List.ext_getElem?
  intro i
  rw [List.getElem?_map, List.getElem?_map]
  by_cases h : i < ws.length
  · rw [List.getElem?_range h, Option.map_some, List.getElem?_append_left h, List.getElem?_eq_getElem h]; rfl
  · rw [List.getElem?_eq_none (by simp; omega), List.getElem?_eq_none (by omega)]; rfl
theorem Gt_i {l : Launch} {G : GG} {y : MethodName} {bytes : ByteArray} {maxL fr lo mc ms : Nat} {vs : List Value} {w : va_W} {P : va_W → Prop} {x : Int32} (hy : plainName y.cls = true) (hfit : (lg_sl vs).length ≤ maxL)
    (body : BodG l G y bytes maxL fr lo mc ms vs w (fun Pw m s A => ∀ {H : Heap} {locs : List Loc} {pc : Nat} {ls : Array Slot} {cells slots : Nat} {w1 : va_W} {z : Int32}, cells ≤ mc → slots ≤ ms → P w1 → va_P (gD G) vwCl w1 H → va_D A w1 → va_S A s.heap H locs → z = x → decode bytes pc = .ok (.ireturn, 1) → Pw (F0 m pc ls [.int z]) H locs cells slots)) :
    Gt l G y bytes maxL (some .int) fr lo mc ms vs w (some (.int x)) P := by
  intro sz
  refine Met.ofW (cc := bytes) (maxL := maxL) (ret := some .int) hy rfl ?_
  intro p e s m args below meth c s₁ B hml hv
  obtain ⟨rfl, hsz, hP, hK, hD0, hE⟩ := hv
  have hx := B.exec
  have hb := B.bytes
  have hr := B.returns
  have hts := atoms_spec (ws := Cond.code y bytes maxL (some .int) :: TT) B.pre
  have hown : s.vm.findClass y.cls = some m.cls := findClass_of_methodNamed B.named
  have hlocks := B.notSynchronized
  have hin : meth.name = y.name := (name_of_methodNamed B.named B.method).1
  subst hsz
  have hD := hD0.self (sz := s.heap.size)
  have hl := lv_entry vs (n := maxL) hfit
  rw [lg_entry_eq]
  refine body (A := va_A w s.heap.size) ⟨hx, hb, hml, hown, fun w h => hts w (List.mem_cons_of_mem _ h)⟩ hin hK hE hP hD va_S.rf (fun q h => Or.inr h) hl ?_
  intro H locs pc ls cells slots w1 z h1 h2 hp hP1 hD1 hS1 hz hdg
  subst hz
  refine W.widen h1 h2 ?_
  exact W.iret hx hb hr (fun t ht hWm => ⟨⟨rfl, w1, hp, by rw [ht]; exact hP1, hD1⟩, hS1.F ht⟩) hS1.2.2 hdg
set_option maxHeartbeats 4000000 in
set_option maxRecDepth 100000 in
theorem c_tap_1 (l : Launch) (G : GG) (C : CS) (M : MS) (hn : zn G < 12) {x : Nat} (hx32 : x < 32) (hh : hmL C (nI x) (zn G) 0 = false) (hM : ∀ d, cM C d = none) : Gt l G yX4_tape cX4_tape 2 (some .int) 3 54 7 510 [.ref (zad G 0 0), .int (nI x)] (world G C M) (some (.int (nI (zn G)))) (fun w => ∃ q9 q5 q6 q7 q8 q10 q11 : Nat, w = world (Gx G q9 q5 q6 q7 q8 q10 q11) (Cx C (zn G) x) M) := by
  refine Gt_i (by decide) (Nat.le_of_ble_eq_true rfl) (fun {p e s m args below meth c A Q ls} hC hin hK hE hP hD hS hA hl hend => ?_)
  have hx := hC.1
  have hb := hC.2.1
  have hl : lv_has ls 2 [(0, .ref (zad G 0 0)), (1, .int (nI x))] := hl
  have hW : Wd G s A s.heap s.heap [] C M := ⟨hK, hP, hD, hS, hA⟩
  refine lv_iload_n hx hb dX4_tape_0 rfl (lv_at hl 1 rfl) ?_
  refine zf_lt (i := x) (tgt := 18) hx hb rfl (by omega) dX4_tape_1 (by decide) ?_
  refine lv_iload_n hx hb dX4_tape_4 rfl (lv_at hl 1 rfl) ?_
  refine lv_bipush (v := 32) hx hb dX4_tape_5 (by decide) ?_
  refine zc_ge (i := x) (j := 32) (tgt := 18) hx hb rfl rfl (by omega) (by omega) dX4_tape_7 (by decide) (fun h7 => ?_) (fun h7 => ?_)
  · exact absurd h7 (by omega)
  refine lv_aload_n hx hb dX4_tape_10 rfl (lv_at hl 0 rfl) ?_
  refine lv_iload_n hx hb dX4_tape_11 rfl (lv_at hl 1 rfl) ?_
  refine z_callV (As := [.int (nI x)]) (rest := []) (st1 := [.int (bI (hmL C (nI x) (zn G) 0 = true))]) hC hW LL_0 rfl rfl rfl (c_X4_isHome l G C M (by omega) (nI x)) mw_X4_isHome mv_X4_isHome mM_X4_44 ⟨Nat.le_of_ble_eq_true rfl, Nat.le_of_ble_eq_true rfl⟩ rfl rfl hl.1 (lv_room (Nat.le_of_ble_eq_true rfl)) dX4_tape_12 rfl (fun H locs hW => ?_) ⟨Nat.zero_le _, Nat.zero_le _⟩
  refine zb_eq (tgt := 20) hx hb (hmL C (nI x) (zn G) 0 = true) rfl dX4_tape_15 (by decide) (fun h15 => ?_) (fun h15 => ?_)
  rotate_left
  · exact absurd h15 (by rw [hh]; decide)
  refine lv_aload_n hx hb dX4_tape_20 rfl (lv_at hl 0 rfl) ?_
  refine g0 (k := 4) (v := .int (nI (zn G))) hC hW (by decide) mF_X4_48 rfl dX4_tape_21 ?_
  refine lv_bipush (v := 12) hx hb dX4_tape_24 (by decide) ?_
  refine zc_lt (i := zn G) (j := 12) (tgt := 32) hx hb rfl rfl (by omega) (by omega) dX4_tape_26 (by decide) (fun h26 => ?_) (fun h26 => ?_)
  rotate_left
  · exact absurd h26 (by omega)
  refine lv_aload_n hx hb dX4_tape_32 rfl (lv_at hl 0 rfl) ?_
  refine g0 (k := 2) (v := .ref (zad G 4 0)) hC hW (by decide) mF_X4_27 rfl dX4_tape_33 ?_
  refine lv_aload_n hx hb dX4_tape_36 rfl (lv_at hl 0 rfl) ?_
  refine g0 (k := 4) (v := .int (nI (zn G))) hC hW (by decide) mF_X4_48 rfl dX4_tape_37 ?_
  obtain ⟨-, hP, hD, hS, -⟩ := hW
  refine n_new (ci := 3) (fs := [.int 0, .null, .null, .null, .int 0, .int 0]) hC uW3 tyX3 tyX3_ok mK_X4_25 mB_X3 mN_X3 hK hP hD hS hA rfl df3 (show 0 + 1 ≤ 7 by omega) (show 0 + 6 ≤ 510 by omega) dX4_tape_40 (fun q9 H hP hD hS => ?_)
  refine lv_dup hx hb dX4_tape_43 rfl ?_
  refine lv_iload_n hx hb dX4_tape_44 rfl (lv_at hl 1 rfl) ?_
  refine n_callI (wc := [(q9, .inr (3, [.int 0, .null, .null, .null, .int 0, .int 0]))]) (wr := world G C M) (As := [.int (nI x)]) (rest := [.ref q9, .int (nI (zn G)), .ref (zad G 4 0)]) hC hK hE hP hD hS hA [(world G C M).length] (List.range (world G C M).length) (app_c _ _) (app_r _ _) rfl (va_nd_of List.nodup_range) (fun i hi q => absurd (List.mem_range.mp hi) (by rw [List.mem_singleton.mp q]; omega)) (app_f _ _) (g_X3_init l G q9 (nI x)) mw_X3_init rfl mI_X3_init mM_X4_51 ⟨Nat.le_of_ble_eq_true rfl, Nat.le_of_ble_eq_true rfl⟩ ⟨show 0 + 1 + 6 ≤ 7 by omega, show 0 + 6 + 504 ≤ 510 by omega⟩ rfl rfl hl.1 (lv_room (Nat.le_of_ble_eq_true rfl)) dX4_tape_45 (fun w1 H locs hw hP hD hS => ?_)
  obtain ⟨q5, q6, q7, q8, q10, q11, rfl⟩ := hw
  have hP : va_P (gD G) vwCl (world G C M ++ w7 G x q9 q5 q6 q7 q8 q10 q11) H := hP
  have hD : va_D A (world G C M ++ w7 G x q9 q5 q6 q7 q8 q10 q11) := hD
  have hv9 : (world G C M ++ w7 G x q9 q5 q6 q7 q8 q10 q11)[(world G C M).length]? = some (q9, .inr (3, [.int (nI x), .ref q5, .ref q10, .ref q11, .int 0, .int 0])) := by
    rw [List.getElem?_append_right (Nat.le_refl _), Nat.sub_self]; rfl
  refine va_astq (r := (RX3, TX3, 6)) (i := nI (zn G)) (n := 12) (f := rowT G (zn G)) hx hb hK hP hD hS 6 3 (world G C M).length 3 rfl rfl hv9 rfl (vp_in_nI hn (by decide)) dX4_tape_48 (fun H locs hP hD hS => ?_)
  rw [nI_clamp (show zn G < 2 ^ 31 by omega)] at hP hD
  refine lv_aload_n hx hb dX4_tape_49 rfl (lv_at hl 0 rfl) ?_
  refine lv_dup hx hb dX4_tape_50 rfl ?_
  refine n_get (v := .int (nI (zn G))) hC uW4 hK hP 0 (fs := fsV G (cF C 0 0) (zn G)) rfl rfl 4 (by decide) mF_X4_48 rfl dX4_tape_51 ?_
  refine lv_iconst (v := 1) hx hb dX4_tape_54 (by decide) ?_
  refine zi_add (i := zn G) (j := 1) hx hb rfl rfl dX4_tape_55 ?_
  refine n_put (ty := .int) (v := .int (nI (zn G + 1))) (fs := fsV G (cF C 0 0) (zn G)) hC uW4 tyX4 tyX4_ok nmX4 hK hP hD hS 0 rfl rfl 4 (by decide) mF_X4_48 rfl (by decide +kernel) rfl rfl (Nat.le_of_ble_eq_true rfl) dX4_tape_56 (fun H locs hP hD hS => ?_)
  refine lv_aload_n hx hb dX4_tape_59 rfl (lv_at hl 0 rfl) ?_
  refine n_get (v := .int (nI (zn G + 1))) hC uW4 hK hP 0 (fs := (fsV G (cF C 0 0) (zn G)).set 4 (.int (nI (zn G + 1)))) rfl rfl 4 (by decide) mF_X4_48 rfl dX4_tape_60 ?_
  refine lv_iconst (v := 1) hx hb dX4_tape_63 (by decide) ?_
  refine zi_sub (i := zn G + 1) (j := 1) hx hb rfl rfl (by omega) dX4_tape_64 ?_
  rw [w_tape hM hn] at hP hD
  exact hend (show 0 + 1 + 6 ≤ 7 by omega) (show 0 + 6 + 504 ≤ 510 by omega) ⟨q9, q5, q6, q7, q8, q10, q11, rfl⟩ hP hD hS (by rw [show zn G + 1 - 1 = zn G by omega]) dX4_tape_65
/-! ===== tape, on both sides ===== -/
theorem RR_tape {n x : Nat} {C : CS} {M : MS} (hR : RR n C M) (hn : n < 12) (hx : x < 32) : RR (n + 1) (Cx C n x) (smF (smA M 1 n (nI x)) 0 (nI (n + 1))) := by
  obtain ⟨⟨a1, a2, ⟨⟨g0, g1, g2, g3, g4⟩, b2, b3, b4, b5⟩, a4, a5, a6, a7, a8⟩, j1, j2⟩ := hR
  have eF : ∀ f i k, (i ≠ n ∨ f ≠ 9) → cF (Cx C n x) f i k = cF C f i k := fun f i k q => by rw [Cx_F, if_neg (by omega)]
  have eN : ∀ f i k, (i ≠ n ∨ (f ≠ 9 ∧ f ≠ 5)) → cN (Cx C n x) f i k = cN C f i k := fun f i k q => by rw [Cx_N, if_neg (by omega), if_neg (by omega)]
  have eB : ∀ f i k, i ≠ n → cB (Cx C n x) f i k = cB C f i k := fun f i k q => by rw [Cx_B, if_neg q]
  have n9 : cN (Cx C n x) 9 n 0 = x := by rw [Cx_N, if_pos ⟨rfl, rfl⟩]
  have n5 : cN (Cx C n x) 5 n 3 = 0 := by rw [Cx_N, if_neg (by omega), if_pos ⟨rfl, rfl⟩]
  have f9 : ∀ k, cF (Cx C n x) 9 n k = 0 := fun k => by rw [Cx_F, if_pos ⟨rfl, rfl⟩]
  have bn : ∀ f k, cB (Cx C n x) f n k = 0 := fun f k => by rw [Cx_B, if_pos rfl]
  have kn : ∀ f a, kAt (Cx C n x) f n a = 0 := fun f a => by unfold kAt; rw [n5, if_neg (by omega)]
  have ko : ∀ f b a, b ≠ n → kAt (Cx C n x) f b a = kAt C f b a := fun f b a q => by unfold kAt; rw [eN _ _ _ (Or.inl q), eB _ _ _ q]
  have mo : ∀ j i, j ≠ 1 → mA (smF (smA M 1 n (nI x)) 0 (nI (n + 1))) j i = mA M j i := fun j i q => by rw [mA_smF, mA_nj q]
  obtain ⟨z1, z2⟩ := b5 n (Nat.le_refl _) hn
  refine ⟨⟨⟨fun b => ?_, fun b j => ?_, fun t => ?_⟩, a2, ⟨?_, fun d q => Rd_of (b2 d q) (fun k => eF _ _ _ (by omega)) (fun j i _ _ => mo j i (by omega)), fun t ht => ?_, fun t a ht ha => ?_, fun t h1 h2 => ?_⟩, fun d hd => by rw [mo _ _ (by decide)]; exact a4 d hd, fun t ht => ?_, fun b hb a q => ?_, Rs_of a7 (eN _ _ _ (by omega)) (fun f a _ _ => eB _ _ _ (by omega)) (fun k h1 h2 => by rw [mF_smF, if_neg (by omega)]; rfl), fun t nm h1 h2 h3 => by rw [mo _ _ (by decide)]; exact a8 t nm (by omega) h2 h3⟩, ?_, ?_⟩
  · by_cases e : b = n
    · rw [e, n5]; omega
    · rw [eN _ _ _ (Or.inl e)]; exact a1.1 b
  · by_cases e : b = n
    · rw [e, bn]; exact ⟨rfl, by decide⟩
    · rw [eB _ _ _ e]; exact a1.2.1 b j
  · by_cases e : t = n
    · rw [e, n9]; exact hx
    · rw [eN _ _ _ (Or.inl e)]; exact a1.2.2 t
  · unfold Rg
    rw [eF 0 0 7 (by omega), eF 1 0 0 (by omega), eF 1 0 1 (by omega), eF 1 0 2 (by omega)]
    exact ⟨rfl, g1, g2, g3, g4⟩
  · unfold Rt
    by_cases e : t = n
    · subst e
      rw [n9, n5, f9, f9, mo 2 _ (by decide), mo 3 _ (by decide), mo 4 _ (by decide), mA_smF, mA_self]
      exact ⟨rfl, z1.1, z1.2.1, z1.2.2⟩
    · rw [eN _ _ _ (Or.inl e), eN _ _ _ (Or.inl e), eF _ _ _ (Or.inl e), eF _ _ _ (Or.inl e), mo 2 _ (by decide), mo 3 _ (by decide), mo 4 _ (by decide), mA_smF, mA_ni e]
      exact b3 t (by omega)
  · unfold Rk
    rw [mo 5 _ (by decide), mo 6 _ (by decide), mo 7 _ (by decide), mo 8 _ (by decide)]
    by_cases e : t = n
    · subst e
      rw [kn, kn, kn, bn]
      obtain ⟨y1, y2, y3, y4⟩ := z2 a ha
      exact ⟨y1, y2, y3, ⟨fun _ => rfl, fun _ => y4⟩⟩
    · rw [ko _ _ _ e, ko _ _ _ e, ko _ _ _ e, eB _ _ _ e]
      exact b4 t a (by omega) ha
  · rw [mo 2 _ (by decide), mo 3 _ (by decide), mo 4 _ (by decide)]
    refine ⟨(b5 t (by omega) h2).1, fun a ha => ?_⟩
    rw [mo 5 _ (by decide), mo 6 _ (by decide), mo 7 _ (by decide), mo 8 _ (by decide)]
    exact (b5 t (by omega) h2).2 a ha
  · by_cases e : t = n
    · subst e
      have k9 : ∀ nm, nm < 1000 → mA (smF (smA M 1 t (nI x)) 0 (nI (t + 1))) 9 (1000 * t + nm) = 0 := fun nm h => by rw [mo _ _ (by decide)]; exact a8 t nm (Nat.le_refl _) hn h
      refine ⟨fun j q => absurd (bn 11 j) q, fun nm j _ q => absurd (bn 11 j) q, fun nm h q => absurd (k9 nm h) q, ?_⟩
      have h1 : cntL (Cx C t x) t = 0 := ct_0 (fun i _ => decide_eq_false (fun q => q (bn 11 i)))
      have h2 : cntK (smF (smA M 1 t (nI x)) 0 (nI (t + 1))) t = 0 := ct_0 (fun i hi => decide_eq_false (fun q => q (k9 i hi)))
      rw [h1, h2]
    · exact Rcat_other (a5 t (by omega)) (eN _ _ _ (Or.inl e)) (fun f a => eB _ _ _ e) (fun nm _ => mo _ _ (by decide))
  · by_cases e : b = n
    · rw [e, kn] at q; exact absurd q (by decide)
    · rw [ko _ _ _ e] at q ⊢
      refine a6 b ?_ a q
      rcases hb with h | h
      · exact Or.inl (by omega)
      · exact Or.inr h
  · show mF M 27 = _; rw [eF _ _ _ (by omega)]; exact j1
  · show mF M 28 = _; rw [eF _ _ _ (by omega)]; exact j2
/-- what tape answers, and whether it makes one -/
theorem tape_cls {n : Nat} {C : CS} {M : MS} (hR : RR n C M) (x : Int32) : ((x < 0 ∨ 32 ≤ x ∨ hmL C x n 0 = true) ∧ mtpL M x n 0 (decide (inP x 0 31)) = false) ∨ (¬ (x < 0 ∨ 32 ≤ x ∨ hmL C x n 0 = true) ∧ mtpL M x n 0 (decide (inP x 0 31)) = true ∧ hmL C x n 0 = false ∧ ∃ k, k < 32 ∧ x = nI k) := by
  have hm := mtpL_hm (C := C) (M := M) (x := x) n 0 (fun t _ h => (hR.1.2.2.1.2.2.1 t (by omega)).1)
  by_cases h : x < 0 ∨ 32 ≤ x ∨ hmL C x n 0 = true
  · refine Or.inl ⟨h, ?_⟩
    by_cases q : inP x 0 31
    · rw [decide_eq_true q, hm]
      have q2 := (inP_cell x).mp q
      have : hmL C x n 0 = true := (h.resolve_left q2.1).resolve_left q2.2
      rw [this]; rfl
    · rw [decide_eq_false q]; exact mtpL_f _ _
  · have h1 : ¬ x < 0 := fun q => h (Or.inl q)
    have h2 : ¬ 32 ≤ x := fun q => h (Or.inr (Or.inl q))
    have h3 : hmL C x n 0 = false := Bool.eq_false_iff.mpr (fun q => h (Or.inr (Or.inr q)))
    refine Or.inr ⟨h, ?_, h3, ?_⟩
    · rw [decide_eq_true ((inP_cell x).mpr ⟨h1, h2⟩), hm, h3]; rfl
    · rcases pk_ix x (n := 32) (by decide) with q | q | ⟨k, hk, rfl⟩
      · exact absurd q h1
      · exact absurd q h2
      · exact ⟨k, hk, rfl⟩
