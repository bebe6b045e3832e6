/-! THE CLAIM OUT OF ONE WALK OF THE LAW'S BODY. Your part is whole_start (and what it stands on); all else here is the same for every law, but numbers. -/
def R_law : String := "TapeVaultLaw"
def lw_P (b : Addr) (xs : List Int32) (args : Array Value) (s : State) : Prop := args = #[.ref b] ∧ s.IntsAt b xs ∧ xs.length ≤ 240 ∧ (Jvm.Cond.and given_1 narrow_1).before args s = true
def lw_Q (_ : Array Value) (s : State) (o : Outcome) (t : State) : Prop := o = .returned (some (.int 1)) ∧ Framed s o t [] 600000 7302250
def lw_Z (below : List Frame) (a : Array Value) (s : State) : State → Prop := fun t => ∃ o, t.status = .running ∧ Ended t below o ∧ lw_Q a s o t
/-- the law's own end, with 1 on the stack, nothing written that was there before, its room as the claim has it -/
theorem lw_ret {p : Program} {l : Launch} {e : Env} {s : State} {m : MethodId} {below : List Frame} {meth : Method} {c : Code} {b : Nat} (hx : p.tables.exec = Jvm.exec) (hb : c.code = code) (hr : meth.sig.returnType = ret) (hlocks : meth.locks = false) {pc : Nat} {H : Heap} {ls : Array Slot} (hdg : decode code pc = .ok (.ireturn, 1)) : W p l e room_1 s m #[Value.ref b] below meth c H [] 600000 7302250 (lw_Z below #[Value.ref b] s) (F0 m pc ls [.int 1]) := by
  intro T hT X
  obtain ⟨fs, hret, hrun, hended, hW, hframe⟩ := X.leave (v := some (.int 1)) (hlocks := hlocks) (fun h => by rw [hr] at h; cases h)
  have hmeth' : T.vm.method? m = some meth := X.method'
  refine ⟨T.setFrames fs, ?_, .returned (some (.int 1)), hrun, hended, rfl, ⟨_, rfl⟩, hW, hframe⟩
  jvm_step X.here [X.here.top, hx, hb, hdg, hmeth', hr, ret, narrow_b1]
  (try refine ⟨rfl, ?_⟩); (try refine ⟨rfl, ?_⟩)
  first | (intro acts; rw [hret _ acts rfl rfl rfl]) | rw [hret _ _ rfl rfl rfl]
  exact Steps.refl _
/-- what holds at the law's entry: the machine, the code, the tables' words (any of lw_tbl by 'hts w (by decide +kernel)'), the script of L ints xs at the cell b, what the Statement gives of the start (any of its parts by flat_of_before) -/
def lw_At (p : Program) (s : State) (m : MethodId) (meth : Method) (c : Code) (b L : Nat) (xs : Nat → Int32) : Prop :=
  p.tables.exec = Jvm.exec ∧ c.code = code ∧ meth.sig.returnType = ret ∧ c.maxLocals = 4 ∧ s.vm.findClass R_law = some m.cls ∧ (∀ w ∈ lw_tbl, w.before #[Value.ref b] s = true) ∧ va_X b L xs s s.heap ∧ b < s.heap.size ∧ meth.locks = false ∧ (Jvm.Cond.and given_1 narrow_1).before #[Value.ref b] s = true

theorem rng_c {α : Type} (ws : List α) : (List.range ws.length).map (fun i => ws[i]?) = ws.map some := by
  apply List.ext_getElem?
  intro i
  rw [List.getElem?_map, List.getElem?_map]
  by_cases h : i < ws.length
  · rw [List.getElem?_range h, Option.map_some, List.getElem?_eq_getElem h]; rfl
  · rw [List.getElem?_eq_none (by simp; omega), List.getElem?_eq_none (by omega)]; rfl
theorem rng_f {α : Type} (ws : List α) : (List.range ws.length).filterMap (fun i => ws[i]?) = ws := by
  have h := rng_c ws
  have e : ∀ (l : List (Option α)) (w : List α), l = w.map some → l.filterMap id = w := fun l w q => by subst q; simp
  have := e _ _ h
  rw [List.filterMap_map] at this
  exact this
/-- a call of tape that makes one: the whole world is the callee's -/
theorem n_callT {p : Program} {l : Launch} {e : Env} {R : Room} {s : State} {m : MethodId} {args : Array Value} {below : List Frame} {meth : Method} {c : Code} {H : Heap} {locs : List Loc} {cells slots : Nat} {Q : State → Prop} {cc : ByteArray} {nL : Nat} {own : String} {pc : Nat} {ls : Array Slot} {rest st0 : List Value} {G : GG} {A : Nat → Prop} {H0 : Heap} {C : CS} {M : MS} {y : MethodName} {bytes : ByteArray} {maxL fr lo mc ms n index : Nat} {As : List Value} {P : va_W → Prop} {x : Int32}
    (hC : CallFix p m c cc nL s args TT own) (hW : Wd G s A H0 H locs C M) (hE : EX s) (hM : Gt l G y bytes maxL (some .int) fr lo mc ms (.ref (zad G 0 0) :: As) (world G C M) (some (.int x)) P) (hy : y.cls = RX4) (hw : MW y bytes maxL (some .int) n) (hv : MWv y) (hlk : Cond.methodLink own index y ∈ TT) (hR : fr + 1 ≤ R.frames ∧ 8 + (maxL + 11) + lo ≤ R.locals) (hf : cells + mc ≤ R.cells ∧ slots + ms ≤ R.slots)
    (hn : As.length = n) (hst : st0 = As.reverse ++ .ref (zad G 0 0) :: rest) (hsz : ls.size = nL) (hroom : 2 * (F0 m pc ls st0).monitorRoom + (rest.map fun v => v.category).sum ≤ 8) (hdg : decode cc pc = .ok (.invokevirtual index, 3))
    (kk : ∀ (w1 : va_W) (H1 : Heap) (locs1 : List Loc), P w1 → va_P (gD G) vwCl w1 H1 → va_D A w1 → va_S A H0 H1 locs1 → W p l e R s m args below meth c H1 locs1 (cells + mc) (slots + ms) Q (F0 m (pc + 3) ls (.int x :: rest))) : W p l e R s m args below meth c H locs cells slots Q (F0 m pc ls st0) := by
  obtain ⟨q0, hq⟩ := w_get (G := G) (M := M) (C := C) LL_0
  have hs : Cond.selects RX4 y y ∈ TT := by rw [← hy]; exact hv.2
  exact n_back (wr := []) (r := some (.int x)) hW.2.1 hW.2.2.1 hW.2.2.2.1 hW.2.2.2.2 (List.range (world G C M).length) [] (rng_c _) rfl rfl (fun i h => by cases h) (va_runV (C := RX4) (As := As) (rest := rest) hC (hM H.size) ⟨z_cb hC hw hlk hR |> fun _ => ⟨rfl, rfl, hR.1, hR.2, code_pay hC.2.2.2.2 hw.1, List.mem_cons_self, hC.2.2.2.2 _ hw.1, hC.2.2.2.2 _ hw.2.1, hw.2.2.1, fun sig h => by
    have h2 := hw.2.2.2
    rw [h] at h2
    exact (Option.some.inj h2).symm, hC.2.2.2.2 _ hlk⟩, hC.2.2.2.2 _ hv.1, hC.2.2.2.2 _ hs⟩ ⟨Pgt.blind, va_recv hW.1 hW.2.1 rfl hq, fun U hU hWm => Pgt.of hW.1 hW.2.1 hW.2.2.1 hE hU hWm⟩ rfl hn hsz hst hroom hdg hf) kk

set_option maxHeartbeats 4000000 in
set_option maxRecDepth 100000 in
theorem law_loop {p : Program} {e : Env} {s : State} {m : MethodId} {below : List Frame} {meth : Method} {c : Code} (l : Launch) {b L : Nat} {xs : Nat → Int32} (hL : L ≤ 240) (C0 : lw_At p s m meth c b L xs) (hC : CallFix p m c code 4 s #[Value.ref b] TT RL) (hE : EX s) :
    ∀ (n i cells slots : Nat), L < i + 5 * n → i ≤ 245 → cells + 7 * n ≤ 600000 → slots + 510 * n ≤ 7302250 → ∀ (G : GG) (C : CS) (M : MS) (H : Heap) (locs : List Loc) (ls : Array Slot), Wd G s (fun q => s.heap.size ≤ q) s.heap H locs C M → RR (zn G) C M → zn G ≤ 12 → lv_has ls 4 [(0, .ref b), (1, .ref (zad G 0 0)), (2, .ref (zad G 12 0)), (3, .int (nI i))] → W p l e room_1 s m #[Value.ref b] below meth c H locs cells slots (lw_Z below #[Value.ref b] s) (F0 m 18 ls []) := by
  obtain ⟨hx, hb, hr, hml, hown, hts, hX, hbl, hlocks, hgv⟩ := C0
  have hbA : ¬ (fun q : Nat => s.heap.size ≤ q) b := Nat.not_le.mpr hbl
  intro n
  induction n with
  | zero =>
    intro i cells slots hin hi245 hcc hss G C M H locs ls hW hR h12 hl
    have hcl : cells ≤ 600000 := by omega
    have hsl : slots ≤ 7302250 := by omega
    refine lv_iload_n hx hb dL_law_18 rfl (lv_at hl 3 rfl) ?_
    refine lv_aload_n hx hb dL_law_19 rfl (lv_at hl 0 rfl) ?_
    refine va_slen hx hb hX hbl hbA hW.2.2.2.1 dL_law_20 ?_
    refine lv_iconst (v := 5) hx hb dL_law_21 (by decide) ?_
    refine lv_isub hx hb dL_law_22 ?_
    refine lv_icmp_gt (tgt := 670) hx hb dL_law_23 (by decide) (fun h23 => ?_) (fun h23 => ?_)
    · refine lv_iconst (v := 1) hx hb dL_law_670 (by decide) ?_
      refine va_forget (fun q hq => hW.2.2.2.1.2.2 q hq) ?_
      refine W.widen (k := 600000) (n := 7302250) (by omega) (by omega) ?_
      exact lw_ret hx hb hr hlocks dL_law_671
    · have hi5 : i + 5 ≤ L := by
        refine Nat.le_of_not_lt (fun q => h23 (Int32.lt_iff_toInt_lt.mpr ?_))
        have e1 : (nI L - nI 5).toInt = (L : Int) - (5 : Nat) := pk_sub_toInt (a := L) (b := 5) (by omega) (by decide)
        have e2 : (nI i).toInt = (i : Int) := nI_toInt (by omega)
        show (nI L - nI 5).toInt < (nI i).toInt
        rw [e1, e2]; omega
      exact absurd hi5 (by omega)
  | succ n ih =>
    intro i cells slots hin hi245 hcc hss G C M H locs ls hW hR h12 hl
    have hcl : cells ≤ 600000 := by omega
    have hsl : slots ≤ 7302250 := by omega
    refine lv_iload_n hx hb dL_law_18 rfl (lv_at hl 3 rfl) ?_
    refine lv_aload_n hx hb dL_law_19 rfl (lv_at hl 0 rfl) ?_
    refine va_slen hx hb hX hbl hbA hW.2.2.2.1 dL_law_20 ?_
    refine lv_iconst (v := 5) hx hb dL_law_21 (by decide) ?_
    refine lv_isub hx hb dL_law_22 ?_
    refine lv_icmp_gt (tgt := 670) hx hb dL_law_23 (by decide) (fun h23 => ?_) (fun h23 => ?_)
    · refine lv_iconst (v := 1) hx hb dL_law_670 (by decide) ?_
      refine va_forget (fun q hq => hW.2.2.2.1.2.2 q hq) ?_
      refine W.widen (k := 600000) (n := 7302250) (by omega) (by omega) ?_
      exact lw_ret hx hb hr hlocks dL_law_671
    · have hi5 : i + 5 ≤ L := by
        refine Nat.le_of_not_lt (fun q => h23 (Int32.lt_iff_toInt_lt.mpr ?_))
        have e1 : (nI L - nI 5).toInt = (L : Int) - (5 : Nat) := pk_sub_toInt (a := L) (b := 5) (by omega) (by decide)
        have e2 : (nI i).toInt = (i : Int) := nI_toInt (by omega)
        show (nI L - nI 5).toInt < (nI i).toInt
        rw [e1, e2]; omega
      have hI := hR.1.1
      have hT : ∀ d t, cM C d = some t → t < zn G := fun d t h => by rw [hR.1.2.1] at h; cases h
      have hnext : ∀ (G : GG) (C : CS) (M : MS) (H : Heap) (locs : List Loc) (ls : Array Slot) (cells1 slots1 : Nat), cells1 ≤ cells + 7 → slots1 ≤ slots + 510 → Wd G s (fun q => s.heap.size ≤ q) s.heap H locs C M → RR (zn G) C M → zn G ≤ 12 → lv_has ls 4 [(0, .ref b), (1, .ref (zad G 0 0)), (2, .ref (zad G 12 0)), (3, .int (nI i))] → W p l e room_1 s m #[Value.ref b] below meth c H locs cells1 slots1 (lw_Z below #[Value.ref b] s) (F0 m 664 ls []) := by
        intro G C M H locs ls cells1 slots1 h1 h2 hW hR h12 hl
        refine W.widen h1 h2 ?_
        refine lv_iinc (k := 3) (v := nI (i + 5)) (lv' := [(3, .int (nI (i + 5))), (0, .ref b), (1, .ref (zad G 0 0)), (2, .ref (zad G 12 0))]) hx hb dL_law_664 hl rfl (nI_add i 5) (by decide) rfl (fun ls hl => ?_)
        refine lv_goto (tgt := 18) hx hb dL_law_667 (by decide) ?_
        exact ih (i + 5) (cells + 7) (slots + 510) (by omega) (by omega) (by omega) (by omega) G C M H locs ls hW hR h12 (lv_sub hl [1, 2, 3, 0] rfl)
      refine lv_aload_n hx hb dL_law_26 rfl (lv_at hl 0 rfl) ?_
      refine lv_iload_n hx hb dL_law_27 rfl (lv_at hl 3 rfl) ?_
      refine va_sld hx hb hX hbl hbA hW.2.2.2.1 (vp_in_nI (n := i) (by omega) (by omega)) dL_law_28 ?_
      refine lv_bipush (v := 31) hx hb dL_law_29 (by decide) ?_
      refine lv_iand hx hb dL_law_31 ?_
      obtain ⟨j, hj, ej⟩ := pk_andE (xs (nI i).toNatClampNeg) (m := 31) 5 (by decide)
      refine z_top ej ?_
      rcases (show j = 0 ∨ j = 1 ∨ j = 2 ∨ j = 3 ∨ j = 4 ∨ j = 5 ∨ j = 6 ∨ j = 7 ∨ j = 8 ∨ j = 9 ∨ j = 10 ∨ j = 11 ∨ j = 12 ∨ j = 13 ∨ j = 14 ∨ j = 15 ∨ j = 16 ∨ j = 17 ∨ 18 ≤ j by omega) with rfl | rfl | rfl | rfl | rfl | rfl | rfl | rfl | rfl | rfl | rfl | rfl | rfl | rfl | rfl | rfl | rfl | rfl | hj18
      · refine lv_tableIn (off := 88) (tgt := 120) hx hb dL_law_32 (by decide) (by decide) (by decide) (by decide) ?_
        rcases tape_cls hR (xs (i + 1)) with ⟨hb0, hg⟩ | ⟨hb0, hg, hh, k, hk, hxk⟩
        · skip
          refine lv_aload_n hx hb dL_law_120 rfl (lv_at hl 1 rfl) ?_
          refine lv_aload_n hx hb dL_law_121 rfl (lv_at hl 0 rfl) ?_
          refine lv_iload_n hx hb dL_law_122 rfl (lv_at hl 3 rfl) ?_
          refine lv_iconst (v := 1) hx hb dL_law_123 (by decide) ?_
          refine zi_add (i := i) (j := 1) hx hb rfl rfl dL_law_124 ?_
          refine va_sld hx hb hX hbl hbA hW.2.2.2.1 (vp_in_nI (n := i + 1) (by omega) (by omega)) dL_law_125 ?_
          refine z_top (y := xs (i + 1)) (by rw [nI_clamp (by omega)]) ?_
          refine z_callV (As := [.int (xs (i + 1))]) (rest := []) (st1 := [.int (-1)]) hC hW LL_0 rfl rfl rfl (c_tap_b l G C M h12 (xs (i + 1)) hb0) mw_X4_tape mv_X4_tape mM_L_13 ⟨Nat.le_of_ble_eq_true rfl, Nat.le_of_ble_eq_true rfl⟩ rfl rfl hl.1 (lv_room (Nat.le_of_ble_eq_true rfl)) dL_law_126 rfl (fun H locs hW => ?_) ⟨hcl, hsl⟩
          refine lv_aload_n hx hb dL_law_129 rfl (lv_at hl 2 rfl) ?_
          refine lv_aload_n hx hb dL_law_130 rfl (lv_at hl 0 rfl) ?_
          refine lv_iload_n hx hb dL_law_131 rfl (lv_at hl 3 rfl) ?_
          refine lv_iconst (v := 1) hx hb dL_law_132 (by decide) ?_
          refine zi_add (i := i) (j := 1) hx hb rfl rfl dL_law_133 ?_
          refine va_sld hx hb hX hbl hbA hW.2.2.2.1 (vp_in_nI (n := i + 1) (by omega) (by omega)) dL_law_134 ?_
          refine z_top (y := xs (i + 1)) (by rw [nI_clamp (by omega)]) ?_
          refine z_callV (As := [.int (xs (i + 1))]) (rest := [.int (-1)]) (st1 := [.int (-1), .int (-1)]) hC hW LL_12 rfl rfl rfl (m_tap_b l G C M h12 (Rn hR.1) (xs (i + 1)) hg) mw_X5_tape mv_X5_tape mM_L_17 ⟨Nat.le_of_ble_eq_true rfl, Nat.le_of_ble_eq_true rfl⟩ rfl rfl hl.1 (lv_room (Nat.le_of_ble_eq_true rfl)) dL_law_135 rfl (fun H locs hW => ?_) ⟨hcl, hsl⟩
          refine lv_icmp_eq (tgt := 664) hx hb dL_law_138 (by decide) (fun _ => ?_) (fun q => absurd rfl q)
          exact hnext G C M _ _ _ _ _ (by omega) (by omega) hW hR h12 hl
        · by_cases hn : zn G = 12
          · skip
            refine lv_aload_n hx hb dL_law_120 rfl (lv_at hl 1 rfl) ?_
            refine lv_aload_n hx hb dL_law_121 rfl (lv_at hl 0 rfl) ?_
            refine lv_iload_n hx hb dL_law_122 rfl (lv_at hl 3 rfl) ?_
            refine lv_iconst (v := 1) hx hb dL_law_123 (by decide) ?_
            refine zi_add (i := i) (j := 1) hx hb rfl rfl dL_law_124 ?_
            refine va_sld hx hb hX hbl hbA hW.2.2.2.1 (vp_in_nI (n := i + 1) (by omega) (by omega)) dL_law_125 ?_
            refine z_top (y := xs (i + 1)) (by rw [nI_clamp (by omega)]) ?_
            refine z_callV (As := [.int (xs (i + 1))]) (rest := []) (st1 := [.int (-6)]) hC hW LL_0 rfl rfl rfl (c_tap_12 l G C M h12 (xs (i + 1)) hb0 (by omega)) mw_X4_tape mv_X4_tape mM_L_13 ⟨Nat.le_of_ble_eq_true rfl, Nat.le_of_ble_eq_true rfl⟩ rfl rfl hl.1 (lv_room (Nat.le_of_ble_eq_true rfl)) dL_law_126 rfl (fun H locs hW => ?_) ⟨hcl, hsl⟩
            refine lv_aload_n hx hb dL_law_129 rfl (lv_at hl 2 rfl) ?_
            refine lv_aload_n hx hb dL_law_130 rfl (lv_at hl 0 rfl) ?_
            refine lv_iload_n hx hb dL_law_131 rfl (lv_at hl 3 rfl) ?_
            refine lv_iconst (v := 1) hx hb dL_law_132 (by decide) ?_
            refine zi_add (i := i) (j := 1) hx hb rfl rfl dL_law_133 ?_
            refine va_sld hx hb hX hbl hbA hW.2.2.2.1 (vp_in_nI (n := i + 1) (by omega) (by omega)) dL_law_134 ?_
            refine z_top (y := xs (i + 1)) (by rw [nI_clamp (by omega)]) ?_
            refine z_callV (As := [.int (xs (i + 1))]) (rest := [.int (-6)]) (st1 := [.int (-6), .int (-6)]) hC hW LL_12 rfl rfl rfl (m_tap_12 l G C M h12 (Rn hR.1) (xs (i + 1)) hg hn) mw_X5_tape mv_X5_tape mM_L_17 ⟨Nat.le_of_ble_eq_true rfl, Nat.le_of_ble_eq_true rfl⟩ rfl rfl hl.1 (lv_room (Nat.le_of_ble_eq_true rfl)) dL_law_135 rfl (fun H locs hW => ?_) ⟨hcl, hsl⟩
            refine lv_icmp_eq (tgt := 664) hx hb dL_law_138 (by decide) (fun _ => ?_) (fun q => absurd rfl q)
            exact hnext G C M _ _ _ _ _ (by omega) (by omega) hW hR h12 hl
          · skip
            have hn2 : zn G < 12 := by omega
            have hMt : Gt l G yX4_tape cX4_tape 2 (some .int) 3 54 7 510 [.ref (zad G 0 0), .int (xs (i + 1))] (world G C M) (some (.int (nI (zn G)))) (fun w => ∃ q9 q5 q6 q7 q8 q10 q11 : Nat, w = world (Gx G q9 q5 q6 q7 q8 q10 q11) (Cx C (zn G) k) M) := by rw [hxk] at hh ⊢; exact c_tap_1 l G C M hn2 hk hh hR.1.2.1
            refine lv_aload_n hx hb dL_law_120 rfl (lv_at hl 1 rfl) ?_
            refine lv_aload_n hx hb dL_law_121 rfl (lv_at hl 0 rfl) ?_
            refine lv_iload_n hx hb dL_law_122 rfl (lv_at hl 3 rfl) ?_
            refine lv_iconst (v := 1) hx hb dL_law_123 (by decide) ?_
            refine zi_add (i := i) (j := 1) hx hb rfl rfl dL_law_124 ?_
            refine va_sld hx hb hX hbl hbA hW.2.2.2.1 (vp_in_nI (n := i + 1) (by omega) (by omega)) dL_law_125 ?_
            refine z_top (y := xs (i + 1)) (by rw [nI_clamp (by omega)]) ?_
            refine n_callT (As := [.int (xs (i + 1))]) (rest := []) hC hW hE hMt rfl mw_X4_tape mv_X4_tape mM_L_13 ⟨Nat.le_of_ble_eq_true rfl, Nat.le_of_ble_eq_true rfl⟩ ⟨show cells + 7 ≤ 600000 by omega, show slots + 510 ≤ 7302250 by omega⟩ rfl rfl hl.1 (lv_room (Nat.le_of_ble_eq_true rfl)) dL_law_126 (fun w1 H locs hw hP hD hS => ?_)
            obtain ⟨q9, q5, q6, q7, q8, q10, q11, rfl⟩ := hw
            obtain ⟨G1, hG1⟩ : ∃ G1, G1 = Gx G q9 q5 q6 q7 q8 q10 q11 := ⟨_, rfl⟩
            have z0 : zad G1 0 0 = zad G 0 0 := by rw [hG1]; exact zx_o (by omega)
            have z12 : zad G1 12 0 = zad G 12 0 := by rw [hG1]; exact zx_o (by omega)
            have zn1 : zn G1 = zn G + 1 := by rw [hG1]; rfl
            have hW : Wd G1 s (fun q => s.heap.size ≤ q) s.heap H locs (Cx C (zn G) k) M := by rw [hG1]; exact ⟨hW.1, hP, hD, hS, hW.2.2.2.2⟩
            have hl : lv_has ls 4 [(0, .ref b), (1, .ref (zad G1 0 0)), (2, .ref (zad G1 12 0)), (3, .int (nI i))] := by rw [z0, z12]; exact hl
            have hcl : cells + 7 ≤ 600000 := by omega
            have hsl : slots + 510 ≤ 7302250 := by omega
            have hRt := RR_tape hR hn2 hk
            rw [← zn1, ← hxk] at hRt
            refine lv_aload_n hx hb dL_law_129 rfl (lv_at hl 2 rfl) ?_
            refine lv_aload_n hx hb dL_law_130 rfl (lv_at hl 0 rfl) ?_
            refine lv_iload_n hx hb dL_law_131 rfl (lv_at hl 3 rfl) ?_
            refine lv_iconst (v := 1) hx hb dL_law_132 (by decide) ?_
            refine zi_add (i := i) (j := 1) hx hb rfl rfl dL_law_133 ?_
            refine va_sld hx hb hX hbl hbA hW.2.2.2.1 (vp_in_nI (n := i + 1) (by omega) (by omega)) dL_law_134 ?_
            refine z_top (y := xs (i + 1)) (by rw [nI_clamp (by omega)]) ?_
            refine z_callV (As := [.int (xs (i + 1))]) (rest := [.int (nI (zn G))]) (st1 := [.int (nI (zn G)), .int (nI (zn G))]) hC hW LL_12 rfl rfl rfl (m_tap_1 l G1 (Cx C (zn G) k) M h12 (Rn hR.1) (xs (i + 1)) hg hn2) mw_X5_tape mv_X5_tape mM_L_17 ⟨Nat.le_of_ble_eq_true rfl, Nat.le_of_ble_eq_true rfl⟩ rfl rfl hl.1 (lv_room (Nat.le_of_ble_eq_true rfl)) dL_law_135 rfl (fun H locs hW => ?_) ⟨hcl, hsl⟩
            rw [← zn1] at hW
            refine lv_icmp_eq (tgt := 664) hx hb dL_law_138 (by decide) (fun _ => ?_) (fun q => absurd rfl q)
            exact hnext G1 (Cx C (zn G) k) _ _ _ _ _ _ (by omega) (by omega) hW hRt (by omega) hl
      · refine lv_tableIn (off := 111) (tgt := 143) hx hb dL_law_32 (by decide) (by decide) (by decide) (by decide) ?_
        refine lv_aload_n hx hb dL_law_143 rfl (lv_at hl 1 rfl) ?_
        refine lv_aload_n hx hb dL_law_144 rfl (lv_at hl 0 rfl) ?_
        refine lv_iload_n hx hb dL_law_145 rfl (lv_at hl 3 rfl) ?_
        refine lv_iconst (v := 1) hx hb dL_law_146 (by decide) ?_
        refine zi_add (i := i) (j := 1) hx hb rfl rfl dL_law_147 ?_
        refine va_sld hx hb hX hbl hbA hW.2.2.2.1 (vp_in_nI (n := i + 1) (by omega) (by omega)) dL_law_148 ?_
        refine z_top (y := xs (i + 1)) (by rw [nI_clamp (by omega)]) ?_
        refine lv_aload_n hx hb dL_law_149 rfl (lv_at hl 0 rfl) ?_
        refine lv_iload_n hx hb dL_law_150 rfl (lv_at hl 3 rfl) ?_
        refine lv_iconst (v := 2) hx hb dL_law_151 (by decide) ?_
        refine zi_add (i := i) (j := 2) hx hb rfl rfl dL_law_152 ?_
        refine va_sld hx hb hX hbl hbA hW.2.2.2.1 (vp_in_nI (n := i + 2) (by omega) (by omega)) dL_law_153 ?_
        refine z_top (y := xs (i + 2)) (by rw [nI_clamp (by omega)]) ?_
        refine lv_aload_n hx hb dL_law_154 rfl (lv_at hl 0 rfl) ?_
        refine lv_iload_n hx hb dL_law_155 rfl (lv_at hl 3 rfl) ?_
        refine lv_iconst (v := 3) hx hb dL_law_156 (by decide) ?_
        refine zi_add (i := i) (j := 3) hx hb rfl rfl dL_law_157 ?_
        refine va_sld hx hb hX hbl hbA hW.2.2.2.1 (vp_in_nI (n := i + 3) (by omega) (by omega)) dL_law_158 ?_
        refine z_top (y := xs (i + 3)) (by rw [nI_clamp (by omega)]) ?_
        refine lv_aload_n hx hb dL_law_159 rfl (lv_at hl 0 rfl) ?_
        refine lv_iload_n hx hb dL_law_160 rfl (lv_at hl 3 rfl) ?_
        refine lv_iconst (v := 4) hx hb dL_law_161 (by decide) ?_
        refine zi_add (i := i) (j := 4) hx hb rfl rfl dL_law_162 ?_
        refine va_sld hx hb hX hbl hbA hW.2.2.2.1 (vp_in_nI (n := i + 4) (by omega) (by omega)) dL_law_163 ?_
        refine z_top (y := xs (i + 4)) (by rw [nI_clamp (by omega)]) ?_
        refine z_callV (As := [.int (xs (i + 1)), .int (xs (i + 2)), .int (xs (i + 3)), .int (xs (i + 4))]) (rest := []) (st1 := [.int ((staT C (xs (i + 1)) (xs (i + 2)) (xs (i + 3)) (xs (i + 4))).1)]) hC hW LL_0 rfl rfl rfl (c_X4_stage l G C M hI (xs (i + 1)) (xs (i + 2)) (xs (i + 3)) (xs (i + 4))) mw_X4_stage mv_X4_stage mM_L_18 ⟨Nat.le_of_ble_eq_true rfl, Nat.le_of_ble_eq_true rfl⟩ rfl rfl hl.1 (lv_room (Nat.le_of_ble_eq_true rfl)) dL_law_164 rfl (fun H locs hW => ?_) ⟨hcl, hsl⟩
        obtain ⟨M1, hm, hR1⟩ := t_stage l G (staT C (xs (i + 1)) (xs (i + 2)) (xs (i + 3)) (xs (i + 4))).2 hR h12 (xs (i + 1)) (xs (i + 2)) (xs (i + 3)) (xs (i + 4))
        refine lv_aload_n hx hb dL_law_167 rfl (lv_at hl 2 rfl) ?_
        refine lv_aload_n hx hb dL_law_168 rfl (lv_at hl 0 rfl) ?_
        refine lv_iload_n hx hb dL_law_169 rfl (lv_at hl 3 rfl) ?_
        refine lv_iconst (v := 1) hx hb dL_law_170 (by decide) ?_
        refine zi_add (i := i) (j := 1) hx hb rfl rfl dL_law_171 ?_
        refine va_sld hx hb hX hbl hbA hW.2.2.2.1 (vp_in_nI (n := i + 1) (by omega) (by omega)) dL_law_172 ?_
        refine z_top (y := xs (i + 1)) (by rw [nI_clamp (by omega)]) ?_
        refine lv_aload_n hx hb dL_law_173 rfl (lv_at hl 0 rfl) ?_
        refine lv_iload_n hx hb dL_law_174 rfl (lv_at hl 3 rfl) ?_
        refine lv_iconst (v := 2) hx hb dL_law_175 (by decide) ?_
        refine zi_add (i := i) (j := 2) hx hb rfl rfl dL_law_176 ?_
        refine va_sld hx hb hX hbl hbA hW.2.2.2.1 (vp_in_nI (n := i + 2) (by omega) (by omega)) dL_law_177 ?_
        refine z_top (y := xs (i + 2)) (by rw [nI_clamp (by omega)]) ?_
        refine lv_aload_n hx hb dL_law_178 rfl (lv_at hl 0 rfl) ?_
        refine lv_iload_n hx hb dL_law_179 rfl (lv_at hl 3 rfl) ?_
        refine lv_iconst (v := 3) hx hb dL_law_180 (by decide) ?_
        refine zi_add (i := i) (j := 3) hx hb rfl rfl dL_law_181 ?_
        refine va_sld hx hb hX hbl hbA hW.2.2.2.1 (vp_in_nI (n := i + 3) (by omega) (by omega)) dL_law_182 ?_
        refine z_top (y := xs (i + 3)) (by rw [nI_clamp (by omega)]) ?_
        refine lv_aload_n hx hb dL_law_183 rfl (lv_at hl 0 rfl) ?_
        refine lv_iload_n hx hb dL_law_184 rfl (lv_at hl 3 rfl) ?_
        refine lv_iconst (v := 4) hx hb dL_law_185 (by decide) ?_
        refine zi_add (i := i) (j := 4) hx hb rfl rfl dL_law_186 ?_
        refine va_sld hx hb hX hbl hbA hW.2.2.2.1 (vp_in_nI (n := i + 4) (by omega) (by omega)) dL_law_187 ?_
        refine z_top (y := xs (i + 4)) (by rw [nI_clamp (by omega)]) ?_
        refine z_callV (As := [.int (xs (i + 1)), .int (xs (i + 2)), .int (xs (i + 3)), .int (xs (i + 4))]) (rest := [.int ((staT C (xs (i + 1)) (xs (i + 2)) (xs (i + 3)) (xs (i + 4))).1)]) (st1 := [.int ((staT C (xs (i + 1)) (xs (i + 2)) (xs (i + 3)) (xs (i + 4))).1), .int ((staT C (xs (i + 1)) (xs (i + 2)) (xs (i + 3)) (xs (i + 4))).1)]) hC hW LL_12 rfl rfl rfl (hm) mw_X5_stage mv_X5_stage mM_L_22 ⟨Nat.le_of_ble_eq_true rfl, Nat.le_of_ble_eq_true rfl⟩ rfl rfl hl.1 (lv_room (Nat.le_of_ble_eq_true rfl)) dL_law_188 rfl (fun H locs hW => ?_) ⟨hcl, hsl⟩
        refine lv_icmp_eq (tgt := 664) hx hb dL_law_191 (by decide) (fun _ => ?_) (fun q => absurd rfl q)
        exact hnext G ((staT C (xs (i + 1)) (xs (i + 2)) (xs (i + 3)) (xs (i + 4))).2) M1 _ _ _ _ _ (by omega) (by omega) hW hR1 h12 hl
      · refine lv_tableIn (off := 164) (tgt := 196) hx hb dL_law_32 (by decide) (by decide) (by decide) (by decide) ?_
        refine lv_aload_n hx hb dL_law_196 rfl (lv_at hl 1 rfl) ?_
        refine lv_aload_n hx hb dL_law_197 rfl (lv_at hl 0 rfl) ?_
        refine lv_iload_n hx hb dL_law_198 rfl (lv_at hl 3 rfl) ?_
        refine lv_iconst (v := 1) hx hb dL_law_199 (by decide) ?_
        refine zi_add (i := i) (j := 1) hx hb rfl rfl dL_law_200 ?_
        refine va_sld hx hb hX hbl hbA hW.2.2.2.1 (vp_in_nI (n := i + 1) (by omega) (by omega)) dL_law_201 ?_
        refine z_top (y := xs (i + 1)) (by rw [nI_clamp (by omega)]) ?_
        refine z_callV (As := [.int (xs (i + 1))]) (rest := []) (st1 := [.int ((copT (zn G) C (xs (i + 1))).1)]) hC hW LL_0 rfl rfl rfl (c_X4_copy l G C M h12 hI hT (xs (i + 1))) mw_X4_copy mv_X4_copy mM_L_23 ⟨Nat.le_of_ble_eq_true rfl, Nat.le_of_ble_eq_true rfl⟩ rfl rfl hl.1 (lv_room (Nat.le_of_ble_eq_true rfl)) dL_law_202 rfl (fun H locs hW => ?_) ⟨hcl, hsl⟩
        obtain ⟨M1, hm, hR1⟩ := t_copy l G (copT (zn G) C (xs (i + 1))).2 hR h12 (xs (i + 1))
        refine lv_aload_n hx hb dL_law_205 rfl (lv_at hl 2 rfl) ?_
        refine lv_aload_n hx hb dL_law_206 rfl (lv_at hl 0 rfl) ?_
        refine lv_iload_n hx hb dL_law_207 rfl (lv_at hl 3 rfl) ?_
        refine lv_iconst (v := 1) hx hb dL_law_208 (by decide) ?_
        refine zi_add (i := i) (j := 1) hx hb rfl rfl dL_law_209 ?_
        refine va_sld hx hb hX hbl hbA hW.2.2.2.1 (vp_in_nI (n := i + 1) (by omega) (by omega)) dL_law_210 ?_
        refine z_top (y := xs (i + 1)) (by rw [nI_clamp (by omega)]) ?_
        refine z_callV (As := [.int (xs (i + 1))]) (rest := [.int ((copT (zn G) C (xs (i + 1))).1)]) (st1 := [.int ((copT (zn G) C (xs (i + 1))).1), .int ((copT (zn G) C (xs (i + 1))).1)]) hC hW LL_12 rfl rfl rfl (hm) mw_X5_copy mv_X5_copy mM_L_26 ⟨Nat.le_of_ble_eq_true rfl, Nat.le_of_ble_eq_true rfl⟩ rfl rfl hl.1 (lv_room (Nat.le_of_ble_eq_true rfl)) dL_law_211 rfl (fun H locs hW => ?_) ⟨hcl, hsl⟩
        refine lv_icmp_eq (tgt := 664) hx hb dL_law_214 (by decide) (fun _ => ?_) (fun q => absurd rfl q)
        exact hnext G ((copT (zn G) C (xs (i + 1))).2) M1 _ _ _ _ _ (by omega) (by omega) hW hR1 h12 hl
      · refine lv_tableIn (off := 187) (tgt := 219) hx hb dL_law_32 (by decide) (by decide) (by decide) (by decide) ?_
        refine lv_aload_n hx hb dL_law_219 rfl (lv_at hl 1 rfl) ?_
        refine lv_aload_n hx hb dL_law_220 rfl (lv_at hl 0 rfl) ?_
        refine lv_iload_n hx hb dL_law_221 rfl (lv_at hl 3 rfl) ?_
        refine lv_iconst (v := 1) hx hb dL_law_222 (by decide) ?_
        refine zi_add (i := i) (j := 1) hx hb rfl rfl dL_law_223 ?_
        refine va_sld hx hb hX hbl hbA hW.2.2.2.1 (vp_in_nI (n := i + 1) (by omega) (by omega)) dL_law_224 ?_
        refine z_top (y := xs (i + 1)) (by rw [nI_clamp (by omega)]) ?_
        refine lv_aload_n hx hb dL_law_225 rfl (lv_at hl 0 rfl) ?_
        refine lv_iload_n hx hb dL_law_226 rfl (lv_at hl 3 rfl) ?_
        refine lv_iconst (v := 2) hx hb dL_law_227 (by decide) ?_
        refine zi_add (i := i) (j := 2) hx hb rfl rfl dL_law_228 ?_
        refine va_sld hx hb hX hbl hbA hW.2.2.2.1 (vp_in_nI (n := i + 2) (by omega) (by omega)) dL_law_229 ?_
        refine z_top (y := xs (i + 2)) (by rw [nI_clamp (by omega)]) ?_
        refine z_callV (As := [.int (xs (i + 1)), .int (xs (i + 2))]) (rest := []) (st1 := [.int ((reaT (zn G) C (xs (i + 1)) (xs (i + 2))).1)]) hC hW LL_0 rfl rfl rfl (c_X4_read l G C M h12 hI hT (xs (i + 1)) (xs (i + 2))) mw_X4_read mv_X4_read mM_L_27 ⟨Nat.le_of_ble_eq_true rfl, Nat.le_of_ble_eq_true rfl⟩ rfl rfl hl.1 (lv_room (Nat.le_of_ble_eq_true rfl)) dL_law_230 rfl (fun H locs hW => ?_) ⟨hcl, hsl⟩
        obtain ⟨M1, hm, hR1⟩ := t_read l G (reaT (zn G) C (xs (i + 1)) (xs (i + 2))).2 hR h12 (xs (i + 1)) (xs (i + 2))
        refine lv_aload_n hx hb dL_law_233 rfl (lv_at hl 2 rfl) ?_
        refine lv_aload_n hx hb dL_law_234 rfl (lv_at hl 0 rfl) ?_
        refine lv_iload_n hx hb dL_law_235 rfl (lv_at hl 3 rfl) ?_
        refine lv_iconst (v := 1) hx hb dL_law_236 (by decide) ?_
        refine zi_add (i := i) (j := 1) hx hb rfl rfl dL_law_237 ?_
        refine va_sld hx hb hX hbl hbA hW.2.2.2.1 (vp_in_nI (n := i + 1) (by omega) (by omega)) dL_law_238 ?_
        refine z_top (y := xs (i + 1)) (by rw [nI_clamp (by omega)]) ?_
        refine lv_aload_n hx hb dL_law_239 rfl (lv_at hl 0 rfl) ?_
        refine lv_iload_n hx hb dL_law_240 rfl (lv_at hl 3 rfl) ?_
        refine lv_iconst (v := 2) hx hb dL_law_241 (by decide) ?_
        refine zi_add (i := i) (j := 2) hx hb rfl rfl dL_law_242 ?_
        refine va_sld hx hb hX hbl hbA hW.2.2.2.1 (vp_in_nI (n := i + 2) (by omega) (by omega)) dL_law_243 ?_
        refine z_top (y := xs (i + 2)) (by rw [nI_clamp (by omega)]) ?_
        refine z_callV (As := [.int (xs (i + 1)), .int (xs (i + 2))]) (rest := [.int ((reaT (zn G) C (xs (i + 1)) (xs (i + 2))).1)]) (st1 := [.int ((reaT (zn G) C (xs (i + 1)) (xs (i + 2))).1), .int ((reaT (zn G) C (xs (i + 1)) (xs (i + 2))).1)]) hC hW LL_12 rfl rfl rfl (hm) mw_X5_read mv_X5_read mM_L_31 ⟨Nat.le_of_ble_eq_true rfl, Nat.le_of_ble_eq_true rfl⟩ rfl rfl hl.1 (lv_room (Nat.le_of_ble_eq_true rfl)) dL_law_244 rfl (fun H locs hW => ?_) ⟨hcl, hsl⟩
        refine lv_icmp_eq (tgt := 664) hx hb dL_law_247 (by decide) (fun _ => ?_) (fun q => absurd rfl q)
        exact hnext G ((reaT (zn G) C (xs (i + 1)) (xs (i + 2))).2) M1 _ _ _ _ _ (by omega) (by omega) hW hR1 h12 hl
      · refine lv_tableIn (off := 220) (tgt := 252) hx hb dL_law_32 (by decide) (by decide) (by decide) (by decide) ?_
        refine lv_aload_n hx hb dL_law_252 rfl (lv_at hl 1 rfl) ?_
        refine lv_aload_n hx hb dL_law_253 rfl (lv_at hl 0 rfl) ?_
        refine lv_iload_n hx hb dL_law_254 rfl (lv_at hl 3 rfl) ?_
        refine lv_iconst (v := 1) hx hb dL_law_255 (by decide) ?_
        refine zi_add (i := i) (j := 1) hx hb rfl rfl dL_law_256 ?_
        refine va_sld hx hb hX hbl hbA hW.2.2.2.1 (vp_in_nI (n := i + 1) (by omega) (by omega)) dL_law_257 ?_
        refine z_top (y := xs (i + 1)) (by rw [nI_clamp (by omega)]) ?_
        refine lv_aload_n hx hb dL_law_258 rfl (lv_at hl 0 rfl) ?_
        refine lv_iload_n hx hb dL_law_259 rfl (lv_at hl 3 rfl) ?_
        refine lv_iconst (v := 2) hx hb dL_law_260 (by decide) ?_
        refine zi_add (i := i) (j := 2) hx hb rfl rfl dL_law_261 ?_
        refine va_sld hx hb hX hbl hbA hW.2.2.2.1 (vp_in_nI (n := i + 2) (by omega) (by omega)) dL_law_262 ?_
        refine z_top (y := xs (i + 2)) (by rw [nI_clamp (by omega)]) ?_
        refine lv_aload_n hx hb dL_law_263 rfl (lv_at hl 0 rfl) ?_
        refine lv_iload_n hx hb dL_law_264 rfl (lv_at hl 3 rfl) ?_
        refine lv_iconst (v := 3) hx hb dL_law_265 (by decide) ?_
        refine zi_add (i := i) (j := 3) hx hb rfl rfl dL_law_266 ?_
        refine va_sld hx hb hX hbl hbA hW.2.2.2.1 (vp_in_nI (n := i + 3) (by omega) (by omega)) dL_law_267 ?_
        refine z_top (y := xs (i + 3)) (by rw [nI_clamp (by omega)]) ?_
        refine z_callV (As := [.int (xs (i + 1)), .int (xs (i + 2)), .int (xs (i + 3))]) (rest := []) (st1 := [.int ((movT (zn G) C (xs (i + 1)) (xs (i + 2)) (xs (i + 3))).1)]) hC hW LL_0 rfl rfl rfl (c_X4_move l G C M h12 hI hT (xs (i + 1)) (xs (i + 2)) (xs (i + 3))) mw_X4_move mv_X4_move mM_L_32 ⟨Nat.le_of_ble_eq_true rfl, Nat.le_of_ble_eq_true rfl⟩ rfl rfl hl.1 (lv_room (Nat.le_of_ble_eq_true rfl)) dL_law_268 rfl (fun H locs hW => ?_) ⟨hcl, hsl⟩
        obtain ⟨M1, hm, hR1⟩ := t_move l G (movT (zn G) C (xs (i + 1)) (xs (i + 2)) (xs (i + 3))).2 hR h12 (xs (i + 1)) (xs (i + 2)) (xs (i + 3))
        refine lv_aload_n hx hb dL_law_271 rfl (lv_at hl 2 rfl) ?_
        refine lv_aload_n hx hb dL_law_272 rfl (lv_at hl 0 rfl) ?_
        refine lv_iload_n hx hb dL_law_273 rfl (lv_at hl 3 rfl) ?_
        refine lv_iconst (v := 1) hx hb dL_law_274 (by decide) ?_
        refine zi_add (i := i) (j := 1) hx hb rfl rfl dL_law_275 ?_
        refine va_sld hx hb hX hbl hbA hW.2.2.2.1 (vp_in_nI (n := i + 1) (by omega) (by omega)) dL_law_276 ?_
        refine z_top (y := xs (i + 1)) (by rw [nI_clamp (by omega)]) ?_
        refine lv_aload_n hx hb dL_law_277 rfl (lv_at hl 0 rfl) ?_
        refine lv_iload_n hx hb dL_law_278 rfl (lv_at hl 3 rfl) ?_
        refine lv_iconst (v := 2) hx hb dL_law_279 (by decide) ?_
        refine zi_add (i := i) (j := 2) hx hb rfl rfl dL_law_280 ?_
        refine va_sld hx hb hX hbl hbA hW.2.2.2.1 (vp_in_nI (n := i + 2) (by omega) (by omega)) dL_law_281 ?_
        refine z_top (y := xs (i + 2)) (by rw [nI_clamp (by omega)]) ?_
        refine lv_aload_n hx hb dL_law_282 rfl (lv_at hl 0 rfl) ?_
        refine lv_iload_n hx hb dL_law_283 rfl (lv_at hl 3 rfl) ?_
        refine lv_iconst (v := 3) hx hb dL_law_284 (by decide) ?_
        refine zi_add (i := i) (j := 3) hx hb rfl rfl dL_law_285 ?_
        refine va_sld hx hb hX hbl hbA hW.2.2.2.1 (vp_in_nI (n := i + 3) (by omega) (by omega)) dL_law_286 ?_
        refine z_top (y := xs (i + 3)) (by rw [nI_clamp (by omega)]) ?_
        refine z_callV (As := [.int (xs (i + 1)), .int (xs (i + 2)), .int (xs (i + 3))]) (rest := [.int ((movT (zn G) C (xs (i + 1)) (xs (i + 2)) (xs (i + 3))).1)]) (st1 := [.int ((movT (zn G) C (xs (i + 1)) (xs (i + 2)) (xs (i + 3))).1), .int ((movT (zn G) C (xs (i + 1)) (xs (i + 2)) (xs (i + 3))).1)]) hC hW LL_12 rfl rfl rfl (hm) mw_X5_move mv_X5_move mM_L_36 ⟨Nat.le_of_ble_eq_true rfl, Nat.le_of_ble_eq_true rfl⟩ rfl rfl hl.1 (lv_room (Nat.le_of_ble_eq_true rfl)) dL_law_287 rfl (fun H locs hW => ?_) ⟨hcl, hsl⟩
        refine lv_icmp_eq (tgt := 664) hx hb dL_law_290 (by decide) (fun _ => ?_) (fun q => absurd rfl q)
        exact hnext G ((movT (zn G) C (xs (i + 1)) (xs (i + 2)) (xs (i + 3))).2) M1 _ _ _ _ _ (by omega) (by omega) hW hR1 h12 hl
      · refine lv_tableIn (off := 263) (tgt := 295) hx hb dL_law_32 (by decide) (by decide) (by decide) (by decide) ?_
        refine lv_aload_n hx hb dL_law_295 rfl (lv_at hl 1 rfl) ?_
        refine lv_aload_n hx hb dL_law_296 rfl (lv_at hl 0 rfl) ?_
        refine lv_iload_n hx hb dL_law_297 rfl (lv_at hl 3 rfl) ?_
        refine lv_iconst (v := 1) hx hb dL_law_298 (by decide) ?_
        refine zi_add (i := i) (j := 1) hx hb rfl rfl dL_law_299 ?_
        refine va_sld hx hb hX hbl hbA hW.2.2.2.1 (vp_in_nI (n := i + 1) (by omega) (by omega)) dL_law_300 ?_
        refine z_top (y := xs (i + 1)) (by rw [nI_clamp (by omega)]) ?_
        refine z_callV (As := [.int (xs (i + 1))]) (rest := []) (st1 := [.int ((salT (zn G) C (xs (i + 1))).1)]) hC hW LL_0 rfl rfl rfl (c_X4_salvage l G C M h12 hI hT (xs (i + 1))) mw_X4_salvage mv_X4_salvage mM_L_37 ⟨Nat.le_of_ble_eq_true rfl, Nat.le_of_ble_eq_true rfl⟩ rfl rfl hl.1 (lv_room (Nat.le_of_ble_eq_true rfl)) dL_law_301 rfl (fun H locs hW => ?_) ⟨hcl, hsl⟩
        obtain ⟨M1, hm, hR1⟩ := t_salvage l G (salT (zn G) C (xs (i + 1))).2 hR h12 (xs (i + 1))
        refine lv_aload_n hx hb dL_law_304 rfl (lv_at hl 2 rfl) ?_
        refine lv_aload_n hx hb dL_law_305 rfl (lv_at hl 0 rfl) ?_
        refine lv_iload_n hx hb dL_law_306 rfl (lv_at hl 3 rfl) ?_
        refine lv_iconst (v := 1) hx hb dL_law_307 (by decide) ?_
        refine zi_add (i := i) (j := 1) hx hb rfl rfl dL_law_308 ?_
        refine va_sld hx hb hX hbl hbA hW.2.2.2.1 (vp_in_nI (n := i + 1) (by omega) (by omega)) dL_law_309 ?_
        refine z_top (y := xs (i + 1)) (by rw [nI_clamp (by omega)]) ?_
        refine z_callV (As := [.int (xs (i + 1))]) (rest := [.int ((salT (zn G) C (xs (i + 1))).1)]) (st1 := [.int ((salT (zn G) C (xs (i + 1))).1), .int ((salT (zn G) C (xs (i + 1))).1)]) hC hW LL_12 rfl rfl rfl (hm) mw_X5_salvage mv_X5_salvage mM_L_40 ⟨Nat.le_of_ble_eq_true rfl, Nat.le_of_ble_eq_true rfl⟩ rfl rfl hl.1 (lv_room (Nat.le_of_ble_eq_true rfl)) dL_law_310 rfl (fun H locs hW => ?_) ⟨hcl, hsl⟩
        refine lv_icmp_eq (tgt := 664) hx hb dL_law_313 (by decide) (fun _ => ?_) (fun q => absurd rfl q)
        exact hnext G ((salT (zn G) C (xs (i + 1))).2) M1 _ _ _ _ _ (by omega) (by omega) hW hR1 h12 hl
      · refine lv_tableIn (off := 286) (tgt := 318) hx hb dL_law_32 (by decide) (by decide) (by decide) (by decide) ?_
        refine lv_aload_n hx hb dL_law_318 rfl (lv_at hl 1 rfl) ?_
        refine lv_aload_n hx hb dL_law_319 rfl (lv_at hl 0 rfl) ?_
        refine lv_iload_n hx hb dL_law_320 rfl (lv_at hl 3 rfl) ?_
        refine lv_iconst (v := 1) hx hb dL_law_321 (by decide) ?_
        refine zi_add (i := i) (j := 1) hx hb rfl rfl dL_law_322 ?_
        refine va_sld hx hb hX hbl hbA hW.2.2.2.1 (vp_in_nI (n := i + 1) (by omega) (by omega)) dL_law_323 ?_
        refine z_top (y := xs (i + 1)) (by rw [nI_clamp (by omega)]) ?_
        refine z_callV (As := [.int (xs (i + 1))]) (rest := []) (st1 := [.int ((scaT (zn G) C (xs (i + 1))).1)]) hC hW LL_0 rfl rfl rfl (c_X4_scan l G C M h12 hI hT (xs (i + 1))) mw_X4_scan mv_X4_scan mM_L_41 ⟨Nat.le_of_ble_eq_true rfl, Nat.le_of_ble_eq_true rfl⟩ rfl rfl hl.1 (lv_room (Nat.le_of_ble_eq_true rfl)) dL_law_324 rfl (fun H locs hW => ?_) ⟨hcl, hsl⟩
        obtain ⟨M1, hm, hR1⟩ := t_scan l G (scaT (zn G) C (xs (i + 1))).2 hR h12 (xs (i + 1))
        refine lv_aload_n hx hb dL_law_327 rfl (lv_at hl 2 rfl) ?_
        refine lv_aload_n hx hb dL_law_328 rfl (lv_at hl 0 rfl) ?_
        refine lv_iload_n hx hb dL_law_329 rfl (lv_at hl 3 rfl) ?_
        refine lv_iconst (v := 1) hx hb dL_law_330 (by decide) ?_
        refine zi_add (i := i) (j := 1) hx hb rfl rfl dL_law_331 ?_
        refine va_sld hx hb hX hbl hbA hW.2.2.2.1 (vp_in_nI (n := i + 1) (by omega) (by omega)) dL_law_332 ?_
        refine z_top (y := xs (i + 1)) (by rw [nI_clamp (by omega)]) ?_
        refine z_callV (As := [.int (xs (i + 1))]) (rest := [.int ((scaT (zn G) C (xs (i + 1))).1)]) (st1 := [.int ((scaT (zn G) C (xs (i + 1))).1), .int ((scaT (zn G) C (xs (i + 1))).1)]) hC hW LL_12 rfl rfl rfl (hm) mw_X5_scan mv_X5_scan mM_L_44 ⟨Nat.le_of_ble_eq_true rfl, Nat.le_of_ble_eq_true rfl⟩ rfl rfl hl.1 (lv_room (Nat.le_of_ble_eq_true rfl)) dL_law_333 rfl (fun H locs hW => ?_) ⟨hcl, hsl⟩
        refine lv_icmp_eq (tgt := 664) hx hb dL_law_336 (by decide) (fun _ => ?_) (fun q => absurd rfl q)
        exact hnext G ((scaT (zn G) C (xs (i + 1))).2) M1 _ _ _ _ _ (by omega) (by omega) hW hR1 h12 hl
      · refine lv_tableIn (off := 309) (tgt := 341) hx hb dL_law_32 (by decide) (by decide) (by decide) (by decide) ?_
        refine lv_aload_n hx hb dL_law_341 rfl (lv_at hl 1 rfl) ?_
        refine lv_aload_n hx hb dL_law_342 rfl (lv_at hl 0 rfl) ?_
        refine lv_iload_n hx hb dL_law_343 rfl (lv_at hl 3 rfl) ?_
        refine lv_iconst (v := 1) hx hb dL_law_344 (by decide) ?_
        refine zi_add (i := i) (j := 1) hx hb rfl rfl dL_law_345 ?_
        refine va_sld hx hb hX hbl hbA hW.2.2.2.1 (vp_in_nI (n := i + 1) (by omega) (by omega)) dL_law_346 ?_
        refine z_top (y := xs (i + 1)) (by rw [nI_clamp (by omega)]) ?_
        refine z_callV (As := [.int (xs (i + 1))]) (rest := []) (st1 := [.int ((losT (zn G) C (xs (i + 1))).1)]) hC hW LL_0 rfl rfl rfl (c_X4_lose l G C M h12 (xs (i + 1))) mw_X4_lose mv_X4_lose mM_L_45 ⟨Nat.le_of_ble_eq_true rfl, Nat.le_of_ble_eq_true rfl⟩ rfl rfl hl.1 (lv_room (Nat.le_of_ble_eq_true rfl)) dL_law_347 rfl (fun H locs hW => ?_) ⟨hcl, hsl⟩
        obtain ⟨M1, hm, hR1⟩ := t_lose l G (losT (zn G) C (xs (i + 1))).2 hR h12 (xs (i + 1))
        refine lv_aload_n hx hb dL_law_350 rfl (lv_at hl 2 rfl) ?_
        refine lv_aload_n hx hb dL_law_351 rfl (lv_at hl 0 rfl) ?_
        refine lv_iload_n hx hb dL_law_352 rfl (lv_at hl 3 rfl) ?_
        refine lv_iconst (v := 1) hx hb dL_law_353 (by decide) ?_
        refine zi_add (i := i) (j := 1) hx hb rfl rfl dL_law_354 ?_
        refine va_sld hx hb hX hbl hbA hW.2.2.2.1 (vp_in_nI (n := i + 1) (by omega) (by omega)) dL_law_355 ?_
        refine z_top (y := xs (i + 1)) (by rw [nI_clamp (by omega)]) ?_
        refine z_callV (As := [.int (xs (i + 1))]) (rest := [.int ((losT (zn G) C (xs (i + 1))).1)]) (st1 := [.int ((losT (zn G) C (xs (i + 1))).1), .int ((losT (zn G) C (xs (i + 1))).1)]) hC hW LL_12 rfl rfl rfl (hm) mw_X5_lose mv_X5_lose mM_L_48 ⟨Nat.le_of_ble_eq_true rfl, Nat.le_of_ble_eq_true rfl⟩ rfl rfl hl.1 (lv_room (Nat.le_of_ble_eq_true rfl)) dL_law_356 rfl (fun H locs hW => ?_) ⟨hcl, hsl⟩
        refine lv_icmp_eq (tgt := 664) hx hb dL_law_359 (by decide) (fun _ => ?_) (fun q => absurd rfl q)
        exact hnext G ((losT (zn G) C (xs (i + 1))).2) M1 _ _ _ _ _ (by omega) (by omega) hW hR1 h12 hl
      · refine lv_tableIn (off := 332) (tgt := 364) hx hb dL_law_32 (by decide) (by decide) (by decide) (by decide) ?_
        refine lv_aload_n hx hb dL_law_364 rfl (lv_at hl 1 rfl) ?_
        refine lv_aload_n hx hb dL_law_365 rfl (lv_at hl 0 rfl) ?_
        refine lv_iload_n hx hb dL_law_366 rfl (lv_at hl 3 rfl) ?_
        refine lv_iconst (v := 1) hx hb dL_law_367 (by decide) ?_
        refine zi_add (i := i) (j := 1) hx hb rfl rfl dL_law_368 ?_
        refine va_sld hx hb hX hbl hbA hW.2.2.2.1 (vp_in_nI (n := i + 1) (by omega) (by omega)) dL_law_369 ?_
        refine z_top (y := xs (i + 1)) (by rw [nI_clamp (by omega)]) ?_
        refine lv_aload_n hx hb dL_law_370 rfl (lv_at hl 0 rfl) ?_
        refine lv_iload_n hx hb dL_law_371 rfl (lv_at hl 3 rfl) ?_
        refine lv_iconst (v := 2) hx hb dL_law_372 (by decide) ?_
        refine zi_add (i := i) (j := 2) hx hb rfl rfl dL_law_373 ?_
        refine va_sld hx hb hX hbl hbA hW.2.2.2.1 (vp_in_nI (n := i + 2) (by omega) (by omega)) dL_law_374 ?_
        refine z_top (y := xs (i + 2)) (by rw [nI_clamp (by omega)]) ?_
        refine lv_aload_n hx hb dL_law_375 rfl (lv_at hl 0 rfl) ?_
        refine lv_iload_n hx hb dL_law_376 rfl (lv_at hl 3 rfl) ?_
        refine lv_iconst (v := 3) hx hb dL_law_377 (by decide) ?_
        refine zi_add (i := i) (j := 3) hx hb rfl rfl dL_law_378 ?_
        refine va_sld hx hb hX hbl hbA hW.2.2.2.1 (vp_in_nI (n := i + 3) (by omega) (by omega)) dL_law_379 ?_
        refine z_top (y := xs (i + 3)) (by rw [nI_clamp (by omega)]) ?_
        refine z_callV (As := [.int (xs (i + 1)), .int (xs (i + 2)), .int (xs (i + 3))]) (rest := []) (st1 := [.int ((damT (zn G) C (xs (i + 1)) (xs (i + 2)) (xs (i + 3))).1)]) hC hW LL_0 rfl rfl rfl (c_X4_damage l G C M h12 (xs (i + 1)) (xs (i + 2)) (xs (i + 3))) mw_X4_damage mv_X4_damage mM_L_49 ⟨Nat.le_of_ble_eq_true rfl, Nat.le_of_ble_eq_true rfl⟩ rfl rfl hl.1 (lv_room (Nat.le_of_ble_eq_true rfl)) dL_law_380 rfl (fun H locs hW => ?_) ⟨hcl, hsl⟩
        obtain ⟨M1, hm, hR1⟩ := t_damage l G (damT (zn G) C (xs (i + 1)) (xs (i + 2)) (xs (i + 3))).2 hR h12 (xs (i + 1)) (xs (i + 2)) (xs (i + 3))
        refine lv_aload_n hx hb dL_law_383 rfl (lv_at hl 2 rfl) ?_
        refine lv_aload_n hx hb dL_law_384 rfl (lv_at hl 0 rfl) ?_
        refine lv_iload_n hx hb dL_law_385 rfl (lv_at hl 3 rfl) ?_
        refine lv_iconst (v := 1) hx hb dL_law_386 (by decide) ?_
        refine zi_add (i := i) (j := 1) hx hb rfl rfl dL_law_387 ?_
        refine va_sld hx hb hX hbl hbA hW.2.2.2.1 (vp_in_nI (n := i + 1) (by omega) (by omega)) dL_law_388 ?_
        refine z_top (y := xs (i + 1)) (by rw [nI_clamp (by omega)]) ?_
        refine lv_aload_n hx hb dL_law_389 rfl (lv_at hl 0 rfl) ?_
        refine lv_iload_n hx hb dL_law_390 rfl (lv_at hl 3 rfl) ?_
        refine lv_iconst (v := 2) hx hb dL_law_391 (by decide) ?_
        refine zi_add (i := i) (j := 2) hx hb rfl rfl dL_law_392 ?_
        refine va_sld hx hb hX hbl hbA hW.2.2.2.1 (vp_in_nI (n := i + 2) (by omega) (by omega)) dL_law_393 ?_
        refine z_top (y := xs (i + 2)) (by rw [nI_clamp (by omega)]) ?_
        refine lv_aload_n hx hb dL_law_394 rfl (lv_at hl 0 rfl) ?_
        refine lv_iload_n hx hb dL_law_395 rfl (lv_at hl 3 rfl) ?_
        refine lv_iconst (v := 3) hx hb dL_law_396 (by decide) ?_
        refine zi_add (i := i) (j := 3) hx hb rfl rfl dL_law_397 ?_
        refine va_sld hx hb hX hbl hbA hW.2.2.2.1 (vp_in_nI (n := i + 3) (by omega) (by omega)) dL_law_398 ?_
        refine z_top (y := xs (i + 3)) (by rw [nI_clamp (by omega)]) ?_
        refine z_callV (As := [.int (xs (i + 1)), .int (xs (i + 2)), .int (xs (i + 3))]) (rest := [.int ((damT (zn G) C (xs (i + 1)) (xs (i + 2)) (xs (i + 3))).1)]) (st1 := [.int ((damT (zn G) C (xs (i + 1)) (xs (i + 2)) (xs (i + 3))).1), .int ((damT (zn G) C (xs (i + 1)) (xs (i + 2)) (xs (i + 3))).1)]) hC hW LL_12 rfl rfl rfl (hm) mw_X5_damage mv_X5_damage mM_L_52 ⟨Nat.le_of_ble_eq_true rfl, Nat.le_of_ble_eq_true rfl⟩ rfl rfl hl.1 (lv_room (Nat.le_of_ble_eq_true rfl)) dL_law_399 rfl (fun H locs hW => ?_) ⟨hcl, hsl⟩
        refine lv_icmp_eq (tgt := 664) hx hb dL_law_402 (by decide) (fun _ => ?_) (fun q => absurd rfl q)
        exact hnext G ((damT (zn G) C (xs (i + 1)) (xs (i + 2)) (xs (i + 3))).2) M1 _ _ _ _ _ (by omega) (by omega) hW hR1 h12 hl
      · refine lv_tableIn (off := 375) (tgt := 407) hx hb dL_law_32 (by decide) (by decide) (by decide) (by decide) ?_
        refine lv_aload_n hx hb dL_law_407 rfl (lv_at hl 1 rfl) ?_
        refine lv_aload_n hx hb dL_law_408 rfl (lv_at hl 0 rfl) ?_
        refine lv_iload_n hx hb dL_law_409 rfl (lv_at hl 3 rfl) ?_
        refine lv_iconst (v := 1) hx hb dL_law_410 (by decide) ?_
        refine zi_add (i := i) (j := 1) hx hb rfl rfl dL_law_411 ?_
        refine va_sld hx hb hX hbl hbA hW.2.2.2.1 (vp_in_nI (n := i + 1) (by omega) (by omega)) dL_law_412 ?_
        refine z_top (y := xs (i + 1)) (by rw [nI_clamp (by omega)]) ?_
        refine lv_aload_n hx hb dL_law_413 rfl (lv_at hl 0 rfl) ?_
        refine lv_iload_n hx hb dL_law_414 rfl (lv_at hl 3 rfl) ?_
        refine lv_iconst (v := 2) hx hb dL_law_415 (by decide) ?_
        refine zi_add (i := i) (j := 2) hx hb rfl rfl dL_law_416 ?_
        refine va_sld hx hb hX hbl hbA hW.2.2.2.1 (vp_in_nI (n := i + 2) (by omega) (by omega)) dL_law_417 ?_
        refine z_top (y := xs (i + 2)) (by rw [nI_clamp (by omega)]) ?_
        refine z_callV (As := [.int (xs (i + 1)), .int (xs (i + 2))]) (rest := []) (st1 := [.int ((jamT C (xs (i + 1)) (xs (i + 2))).1)]) hC hW LL_0 rfl rfl rfl (c_X4_jam l G C M  (xs (i + 1)) (xs (i + 2))) mw_X4_jam mv_X4_jam mM_L_53 ⟨Nat.le_of_ble_eq_true rfl, Nat.le_of_ble_eq_true rfl⟩ rfl rfl hl.1 (lv_room (Nat.le_of_ble_eq_true rfl)) dL_law_418 rfl (fun H locs hW => ?_) ⟨hcl, hsl⟩
        obtain ⟨M1, hm, hR1⟩ := t_jam l G (jamT C (xs (i + 1)) (xs (i + 2))).2 hR (xs (i + 1)) (xs (i + 2))
        refine lv_aload_n hx hb dL_law_421 rfl (lv_at hl 2 rfl) ?_
        refine lv_aload_n hx hb dL_law_422 rfl (lv_at hl 0 rfl) ?_
        refine lv_iload_n hx hb dL_law_423 rfl (lv_at hl 3 rfl) ?_
        refine lv_iconst (v := 1) hx hb dL_law_424 (by decide) ?_
        refine zi_add (i := i) (j := 1) hx hb rfl rfl dL_law_425 ?_
        refine va_sld hx hb hX hbl hbA hW.2.2.2.1 (vp_in_nI (n := i + 1) (by omega) (by omega)) dL_law_426 ?_
        refine z_top (y := xs (i + 1)) (by rw [nI_clamp (by omega)]) ?_
        refine lv_aload_n hx hb dL_law_427 rfl (lv_at hl 0 rfl) ?_
        refine lv_iload_n hx hb dL_law_428 rfl (lv_at hl 3 rfl) ?_
        refine lv_iconst (v := 2) hx hb dL_law_429 (by decide) ?_
        refine zi_add (i := i) (j := 2) hx hb rfl rfl dL_law_430 ?_
        refine va_sld hx hb hX hbl hbA hW.2.2.2.1 (vp_in_nI (n := i + 2) (by omega) (by omega)) dL_law_431 ?_
        refine z_top (y := xs (i + 2)) (by rw [nI_clamp (by omega)]) ?_
        refine z_callV (As := [.int (xs (i + 1)), .int (xs (i + 2))]) (rest := [.int ((jamT C (xs (i + 1)) (xs (i + 2))).1)]) (st1 := [.int ((jamT C (xs (i + 1)) (xs (i + 2))).1), .int ((jamT C (xs (i + 1)) (xs (i + 2))).1)]) hC hW LL_12 rfl rfl rfl (hm) mw_X5_jam mv_X5_jam mM_L_56 ⟨Nat.le_of_ble_eq_true rfl, Nat.le_of_ble_eq_true rfl⟩ rfl rfl hl.1 (lv_room (Nat.le_of_ble_eq_true rfl)) dL_law_432 rfl (fun H locs hW => ?_) ⟨hcl, hsl⟩
        refine lv_icmp_eq (tgt := 664) hx hb dL_law_435 (by decide) (fun _ => ?_) (fun q => absurd rfl q)
        exact hnext G ((jamT C (xs (i + 1)) (xs (i + 2))).2) M1 _ _ _ _ _ (by omega) (by omega) hW hR1 h12 hl
      · refine lv_tableIn (off := 408) (tgt := 440) hx hb dL_law_32 (by decide) (by decide) (by decide) (by decide) ?_
        refine lv_aload_n hx hb dL_law_440 rfl (lv_at hl 1 rfl) ?_
        refine lv_aload_n hx hb dL_law_441 rfl (lv_at hl 0 rfl) ?_
        refine lv_iload_n hx hb dL_law_442 rfl (lv_at hl 3 rfl) ?_
        refine lv_iconst (v := 1) hx hb dL_law_443 (by decide) ?_
        refine zi_add (i := i) (j := 1) hx hb rfl rfl dL_law_444 ?_
        refine va_sld hx hb hX hbl hbA hW.2.2.2.1 (vp_in_nI (n := i + 1) (by omega) (by omega)) dL_law_445 ?_
        refine z_top (y := xs (i + 1)) (by rw [nI_clamp (by omega)]) ?_
        refine z_callV (As := [.int (xs (i + 1))]) (rest := []) (st1 := [.int ((fixT C (xs (i + 1))).1)]) hC hW LL_0 rfl rfl rfl (c_X4_fix l G C M  (xs (i + 1))) mw_X4_fix mv_X4_fix mM_L_57 ⟨Nat.le_of_ble_eq_true rfl, Nat.le_of_ble_eq_true rfl⟩ rfl rfl hl.1 (lv_room (Nat.le_of_ble_eq_true rfl)) dL_law_446 rfl (fun H locs hW => ?_) ⟨hcl, hsl⟩
        obtain ⟨M1, hm, hR1⟩ := t_fix l G (fixT C (xs (i + 1))).2 hR (xs (i + 1))
        refine lv_aload_n hx hb dL_law_449 rfl (lv_at hl 2 rfl) ?_
        refine lv_aload_n hx hb dL_law_450 rfl (lv_at hl 0 rfl) ?_
        refine lv_iload_n hx hb dL_law_451 rfl (lv_at hl 3 rfl) ?_
        refine lv_iconst (v := 1) hx hb dL_law_452 (by decide) ?_
        refine zi_add (i := i) (j := 1) hx hb rfl rfl dL_law_453 ?_
        refine va_sld hx hb hX hbl hbA hW.2.2.2.1 (vp_in_nI (n := i + 1) (by omega) (by omega)) dL_law_454 ?_
        refine z_top (y := xs (i + 1)) (by rw [nI_clamp (by omega)]) ?_
        refine z_callV (As := [.int (xs (i + 1))]) (rest := [.int ((fixT C (xs (i + 1))).1)]) (st1 := [.int ((fixT C (xs (i + 1))).1), .int ((fixT C (xs (i + 1))).1)]) hC hW LL_12 rfl rfl rfl (hm) mw_X5_fix mv_X5_fix mM_L_60 ⟨Nat.le_of_ble_eq_true rfl, Nat.le_of_ble_eq_true rfl⟩ rfl rfl hl.1 (lv_room (Nat.le_of_ble_eq_true rfl)) dL_law_455 rfl (fun H locs hW => ?_) ⟨hcl, hsl⟩
        refine lv_icmp_eq (tgt := 664) hx hb dL_law_458 (by decide) (fun _ => ?_) (fun q => absurd rfl q)
        exact hnext G ((fixT C (xs (i + 1))).2) M1 _ _ _ _ _ (by omega) (by omega) hW hR1 h12 hl
      · refine lv_tableIn (off := 431) (tgt := 463) hx hb dL_law_32 (by decide) (by decide) (by decide) (by decide) ?_
        refine lv_aload_n hx hb dL_law_463 rfl (lv_at hl 1 rfl) ?_
        refine lv_aload_n hx hb dL_law_464 rfl (lv_at hl 0 rfl) ?_
        refine lv_iload_n hx hb dL_law_465 rfl (lv_at hl 3 rfl) ?_
        refine lv_iconst (v := 1) hx hb dL_law_466 (by decide) ?_
        refine zi_add (i := i) (j := 1) hx hb rfl rfl dL_law_467 ?_
        refine va_sld hx hb hX hbl hbA hW.2.2.2.1 (vp_in_nI (n := i + 1) (by omega) (by omega)) dL_law_468 ?_
        refine z_top (y := xs (i + 1)) (by rw [nI_clamp (by omega)]) ?_
        refine z_callV (As := [.int (xs (i + 1))]) (rest := []) (st1 := [.int ((powT C (xs (i + 1))).1)]) hC hW LL_0 rfl rfl rfl (c_X4_power l G C M  (xs (i + 1))) mw_X4_power mv_X4_power mM_L_61 ⟨Nat.le_of_ble_eq_true rfl, Nat.le_of_ble_eq_true rfl⟩ rfl rfl hl.1 (lv_room (Nat.le_of_ble_eq_true rfl)) dL_law_469 rfl (fun H locs hW => ?_) ⟨hcl, hsl⟩
        obtain ⟨M1, hm, hR1⟩ := t_power l G (powT C (xs (i + 1))).2 hR (xs (i + 1))
        refine lv_aload_n hx hb dL_law_472 rfl (lv_at hl 2 rfl) ?_
        refine lv_aload_n hx hb dL_law_473 rfl (lv_at hl 0 rfl) ?_
        refine lv_iload_n hx hb dL_law_474 rfl (lv_at hl 3 rfl) ?_
        refine lv_iconst (v := 1) hx hb dL_law_475 (by decide) ?_
        refine zi_add (i := i) (j := 1) hx hb rfl rfl dL_law_476 ?_
        refine va_sld hx hb hX hbl hbA hW.2.2.2.1 (vp_in_nI (n := i + 1) (by omega) (by omega)) dL_law_477 ?_
        refine z_top (y := xs (i + 1)) (by rw [nI_clamp (by omega)]) ?_
        refine z_callV (As := [.int (xs (i + 1))]) (rest := [.int ((powT C (xs (i + 1))).1)]) (st1 := [.int ((powT C (xs (i + 1))).1), .int ((powT C (xs (i + 1))).1)]) hC hW LL_12 rfl rfl rfl (hm) mw_X5_power mv_X5_power mM_L_64 ⟨Nat.le_of_ble_eq_true rfl, Nat.le_of_ble_eq_true rfl⟩ rfl rfl hl.1 (lv_room (Nat.le_of_ble_eq_true rfl)) dL_law_478 rfl (fun H locs hW => ?_) ⟨hcl, hsl⟩
        refine lv_icmp_eq (tgt := 664) hx hb dL_law_481 (by decide) (fun _ => ?_) (fun q => absurd rfl q)
        exact hnext G ((powT C (xs (i + 1))).2) M1 _ _ _ _ _ (by omega) (by omega) hW hR1 h12 hl
      · refine lv_tableIn (off := 454) (tgt := 486) hx hb dL_law_32 (by decide) (by decide) (by decide) (by decide) ?_
        refine lv_aload_n hx hb dL_law_486 rfl (lv_at hl 1 rfl) ?_
        refine lv_aload_n hx hb dL_law_487 rfl (lv_at hl 0 rfl) ?_
        refine lv_iload_n hx hb dL_law_488 rfl (lv_at hl 3 rfl) ?_
        refine lv_iconst (v := 1) hx hb dL_law_489 (by decide) ?_
        refine zi_add (i := i) (j := 1) hx hb rfl rfl dL_law_490 ?_
        refine va_sld hx hb hX hbl hbA hW.2.2.2.1 (vp_in_nI (n := i + 1) (by omega) (by omega)) dL_law_491 ?_
        refine z_top (y := xs (i + 1)) (by rw [nI_clamp (by omega)]) ?_
        refine lv_aload_n hx hb dL_law_492 rfl (lv_at hl 0 rfl) ?_
        refine lv_iload_n hx hb dL_law_493 rfl (lv_at hl 3 rfl) ?_
        refine lv_iconst (v := 2) hx hb dL_law_494 (by decide) ?_
        refine zi_add (i := i) (j := 2) hx hb rfl rfl dL_law_495 ?_
        refine va_sld hx hb hX hbl hbA hW.2.2.2.1 (vp_in_nI (n := i + 2) (by omega) (by omega)) dL_law_496 ?_
        refine z_top (y := xs (i + 2)) (by rw [nI_clamp (by omega)]) ?_
        refine z_callV (As := [.int (xs (i + 1)), .int (xs (i + 2))]) (rest := []) (st1 := [.int (plaT (zn G) C (xs (i + 1)) (xs (i + 2)))]) hC hW LL_0 rfl rfl rfl (c_X4_place l G C M h12 hI (xs (i + 1)) (xs (i + 2))) mw_X4_place mv_X4_place mM_L_65 ⟨Nat.le_of_ble_eq_true rfl, Nat.le_of_ble_eq_true rfl⟩ rfl rfl hl.1 (lv_room (Nat.le_of_ble_eq_true rfl)) dL_law_497 rfl (fun H locs hW => ?_) ⟨hcl, hsl⟩
        have hm := t_place l G C hR h12 (xs (i + 1)) (xs (i + 2))
        refine lv_aload_n hx hb dL_law_500 rfl (lv_at hl 2 rfl) ?_
        refine lv_aload_n hx hb dL_law_501 rfl (lv_at hl 0 rfl) ?_
        refine lv_iload_n hx hb dL_law_502 rfl (lv_at hl 3 rfl) ?_
        refine lv_iconst (v := 1) hx hb dL_law_503 (by decide) ?_
        refine zi_add (i := i) (j := 1) hx hb rfl rfl dL_law_504 ?_
        refine va_sld hx hb hX hbl hbA hW.2.2.2.1 (vp_in_nI (n := i + 1) (by omega) (by omega)) dL_law_505 ?_
        refine z_top (y := xs (i + 1)) (by rw [nI_clamp (by omega)]) ?_
        refine lv_aload_n hx hb dL_law_506 rfl (lv_at hl 0 rfl) ?_
        refine lv_iload_n hx hb dL_law_507 rfl (lv_at hl 3 rfl) ?_
        refine lv_iconst (v := 2) hx hb dL_law_508 (by decide) ?_
        refine zi_add (i := i) (j := 2) hx hb rfl rfl dL_law_509 ?_
        refine va_sld hx hb hX hbl hbA hW.2.2.2.1 (vp_in_nI (n := i + 2) (by omega) (by omega)) dL_law_510 ?_
        refine z_top (y := xs (i + 2)) (by rw [nI_clamp (by omega)]) ?_
        refine z_callV (As := [.int (xs (i + 1)), .int (xs (i + 2))]) (rest := [.int (plaT (zn G) C (xs (i + 1)) (xs (i + 2)))]) (st1 := [.int (plaT (zn G) C (xs (i + 1)) (xs (i + 2))), .int (plaT (zn G) C (xs (i + 1)) (xs (i + 2)))]) hC hW LL_12 rfl rfl rfl (hm) mw_X5_place mv_X5_place mM_L_68 ⟨Nat.le_of_ble_eq_true rfl, Nat.le_of_ble_eq_true rfl⟩ rfl rfl hl.1 (lv_room (Nat.le_of_ble_eq_true rfl)) dL_law_511 rfl (fun H locs hW => ?_) ⟨hcl, hsl⟩
        refine lv_icmp_eq (tgt := 664) hx hb dL_law_514 (by decide) (fun _ => ?_) (fun q => absurd rfl q)
        exact hnext G C M _ _ _ _ _ (by omega) (by omega) hW hR h12 hl
      · refine lv_tableIn (off := 487) (tgt := 519) hx hb dL_law_32 (by decide) (by decide) (by decide) (by decide) ?_
        refine lv_aload_n hx hb dL_law_519 rfl (lv_at hl 1 rfl) ?_
        refine lv_aload_n hx hb dL_law_520 rfl (lv_at hl 0 rfl) ?_
        refine lv_iload_n hx hb dL_law_521 rfl (lv_at hl 3 rfl) ?_
        refine lv_iconst (v := 1) hx hb dL_law_522 (by decide) ?_
        refine zi_add (i := i) (j := 1) hx hb rfl rfl dL_law_523 ?_
        refine va_sld hx hb hX hbl hbA hW.2.2.2.1 (vp_in_nI (n := i + 1) (by omega) (by omega)) dL_law_524 ?_
        refine z_top (y := xs (i + 1)) (by rw [nI_clamp (by omega)]) ?_
        refine lv_aload_n hx hb dL_law_525 rfl (lv_at hl 0 rfl) ?_
        refine lv_iload_n hx hb dL_law_526 rfl (lv_at hl 3 rfl) ?_
        refine lv_iconst (v := 2) hx hb dL_law_527 (by decide) ?_
        refine zi_add (i := i) (j := 2) hx hb rfl rfl dL_law_528 ?_
        refine va_sld hx hb hX hbl hbA hW.2.2.2.1 (vp_in_nI (n := i + 2) (by omega) (by omega)) dL_law_529 ?_
        refine z_top (y := xs (i + 2)) (by rw [nI_clamp (by omega)]) ?_
        refine lv_aload_n hx hb dL_law_530 rfl (lv_at hl 0 rfl) ?_
        refine lv_iload_n hx hb dL_law_531 rfl (lv_at hl 3 rfl) ?_
        refine lv_iconst (v := 3) hx hb dL_law_532 (by decide) ?_
        refine zi_add (i := i) (j := 3) hx hb rfl rfl dL_law_533 ?_
        refine va_sld hx hb hX hbl hbA hW.2.2.2.1 (vp_in_nI (n := i + 3) (by omega) (by omega)) dL_law_534 ?_
        refine z_top (y := xs (i + 3)) (by rw [nI_clamp (by omega)]) ?_
        refine z_callV (As := [.int (xs (i + 1)), .int (xs (i + 2)), .int (xs (i + 3))]) (rest := []) (st1 := [.int (bloT (zn G) C (xs (i + 1)) (xs (i + 2)) (xs (i + 3)))]) hC hW LL_0 rfl rfl rfl (c_X4_block l G C M h12 hI (xs (i + 1)) (xs (i + 2)) (xs (i + 3))) mw_X4_block mv_X4_block mM_L_69 ⟨Nat.le_of_ble_eq_true rfl, Nat.le_of_ble_eq_true rfl⟩ rfl rfl hl.1 (lv_room (Nat.le_of_ble_eq_true rfl)) dL_law_535 rfl (fun H locs hW => ?_) ⟨hcl, hsl⟩
        have hm := t_block l G C hR h12 (xs (i + 1)) (xs (i + 2)) (xs (i + 3))
        refine lv_aload_n hx hb dL_law_538 rfl (lv_at hl 2 rfl) ?_
        refine lv_aload_n hx hb dL_law_539 rfl (lv_at hl 0 rfl) ?_
        refine lv_iload_n hx hb dL_law_540 rfl (lv_at hl 3 rfl) ?_
        refine lv_iconst (v := 1) hx hb dL_law_541 (by decide) ?_
        refine zi_add (i := i) (j := 1) hx hb rfl rfl dL_law_542 ?_
        refine va_sld hx hb hX hbl hbA hW.2.2.2.1 (vp_in_nI (n := i + 1) (by omega) (by omega)) dL_law_543 ?_
        refine z_top (y := xs (i + 1)) (by rw [nI_clamp (by omega)]) ?_
        refine lv_aload_n hx hb dL_law_544 rfl (lv_at hl 0 rfl) ?_
        refine lv_iload_n hx hb dL_law_545 rfl (lv_at hl 3 rfl) ?_
        refine lv_iconst (v := 2) hx hb dL_law_546 (by decide) ?_
        refine zi_add (i := i) (j := 2) hx hb rfl rfl dL_law_547 ?_
        refine va_sld hx hb hX hbl hbA hW.2.2.2.1 (vp_in_nI (n := i + 2) (by omega) (by omega)) dL_law_548 ?_
        refine z_top (y := xs (i + 2)) (by rw [nI_clamp (by omega)]) ?_
        refine lv_aload_n hx hb dL_law_549 rfl (lv_at hl 0 rfl) ?_
        refine lv_iload_n hx hb dL_law_550 rfl (lv_at hl 3 rfl) ?_
        refine lv_iconst (v := 3) hx hb dL_law_551 (by decide) ?_
        refine zi_add (i := i) (j := 3) hx hb rfl rfl dL_law_552 ?_
        refine va_sld hx hb hX hbl hbA hW.2.2.2.1 (vp_in_nI (n := i + 3) (by omega) (by omega)) dL_law_553 ?_
        refine z_top (y := xs (i + 3)) (by rw [nI_clamp (by omega)]) ?_
        refine z_callV (As := [.int (xs (i + 1)), .int (xs (i + 2)), .int (xs (i + 3))]) (rest := [.int (bloT (zn G) C (xs (i + 1)) (xs (i + 2)) (xs (i + 3)))]) (st1 := [.int (bloT (zn G) C (xs (i + 1)) (xs (i + 2)) (xs (i + 3))), .int (bloT (zn G) C (xs (i + 1)) (xs (i + 2)) (xs (i + 3)))]) hC hW LL_12 rfl rfl rfl (hm) mw_X5_block mv_X5_block mM_L_72 ⟨Nat.le_of_ble_eq_true rfl, Nat.le_of_ble_eq_true rfl⟩ rfl rfl hl.1 (lv_room (Nat.le_of_ble_eq_true rfl)) dL_law_554 rfl (fun H locs hW => ?_) ⟨hcl, hsl⟩
        refine lv_icmp_eq (tgt := 664) hx hb dL_law_557 (by decide) (fun _ => ?_) (fun q => absurd rfl q)
        exact hnext G C M _ _ _ _ _ (by omega) (by omega) hW hR h12 hl
      · refine lv_tableIn (off := 530) (tgt := 562) hx hb dL_law_32 (by decide) (by decide) (by decide) (by decide) ?_
        refine lv_aload_n hx hb dL_law_562 rfl (lv_at hl 1 rfl) ?_
        refine lv_aload_n hx hb dL_law_563 rfl (lv_at hl 0 rfl) ?_
        refine lv_iload_n hx hb dL_law_564 rfl (lv_at hl 3 rfl) ?_
        refine lv_iconst (v := 1) hx hb dL_law_565 (by decide) ?_
        refine zi_add (i := i) (j := 1) hx hb rfl rfl dL_law_566 ?_
        refine va_sld hx hb hX hbl hbA hW.2.2.2.1 (vp_in_nI (n := i + 1) (by omega) (by omega)) dL_law_567 ?_
        refine z_top (y := xs (i + 1)) (by rw [nI_clamp (by omega)]) ?_
        refine lv_aload_n hx hb dL_law_568 rfl (lv_at hl 0 rfl) ?_
        refine lv_iload_n hx hb dL_law_569 rfl (lv_at hl 3 rfl) ?_
        refine lv_iconst (v := 2) hx hb dL_law_570 (by decide) ?_
        refine zi_add (i := i) (j := 2) hx hb rfl rfl dL_law_571 ?_
        refine va_sld hx hb hX hbl hbA hW.2.2.2.1 (vp_in_nI (n := i + 2) (by omega) (by omega)) dL_law_572 ?_
        refine z_top (y := xs (i + 2)) (by rw [nI_clamp (by omega)]) ?_
        refine z_callV (As := [.int (xs (i + 1)), .int (xs (i + 2))]) (rest := []) (st1 := [.int (ttT (zn G) C (xs (i + 1)) (xs (i + 2)))]) hC hW LL_0 rfl rfl rfl (c_X4_tapeTold l G C M h12 (xs (i + 1)) (xs (i + 2))) mw_X4_tapeTold mv_X4_tapeTold mM_L_73 ⟨Nat.le_of_ble_eq_true rfl, Nat.le_of_ble_eq_true rfl⟩ rfl rfl hl.1 (lv_room (Nat.le_of_ble_eq_true rfl)) dL_law_573 rfl (fun H locs hW => ?_) ⟨hcl, hsl⟩
        have hm := t_tapeTold l G C hR h12 (xs (i + 1)) (xs (i + 2))
        refine lv_aload_n hx hb dL_law_576 rfl (lv_at hl 2 rfl) ?_
        refine lv_aload_n hx hb dL_law_577 rfl (lv_at hl 0 rfl) ?_
        refine lv_iload_n hx hb dL_law_578 rfl (lv_at hl 3 rfl) ?_
        refine lv_iconst (v := 1) hx hb dL_law_579 (by decide) ?_
        refine zi_add (i := i) (j := 1) hx hb rfl rfl dL_law_580 ?_
        refine va_sld hx hb hX hbl hbA hW.2.2.2.1 (vp_in_nI (n := i + 1) (by omega) (by omega)) dL_law_581 ?_
        refine z_top (y := xs (i + 1)) (by rw [nI_clamp (by omega)]) ?_
        refine lv_aload_n hx hb dL_law_582 rfl (lv_at hl 0 rfl) ?_
        refine lv_iload_n hx hb dL_law_583 rfl (lv_at hl 3 rfl) ?_
        refine lv_iconst (v := 2) hx hb dL_law_584 (by decide) ?_
        refine zi_add (i := i) (j := 2) hx hb rfl rfl dL_law_585 ?_
        refine va_sld hx hb hX hbl hbA hW.2.2.2.1 (vp_in_nI (n := i + 2) (by omega) (by omega)) dL_law_586 ?_
        refine z_top (y := xs (i + 2)) (by rw [nI_clamp (by omega)]) ?_
        refine z_callV (As := [.int (xs (i + 1)), .int (xs (i + 2))]) (rest := [.int (ttT (zn G) C (xs (i + 1)) (xs (i + 2)))]) (st1 := [.int (ttT (zn G) C (xs (i + 1)) (xs (i + 2))), .int (ttT (zn G) C (xs (i + 1)) (xs (i + 2)))]) hC hW LL_12 rfl rfl rfl (hm) mw_X5_tapeTold mv_X5_tapeTold mM_L_76 ⟨Nat.le_of_ble_eq_true rfl, Nat.le_of_ble_eq_true rfl⟩ rfl rfl hl.1 (lv_room (Nat.le_of_ble_eq_true rfl)) dL_law_587 rfl (fun H locs hW => ?_) ⟨hcl, hsl⟩
        refine lv_icmp_eq (tgt := 664) hx hb dL_law_590 (by decide) (fun _ => ?_) (fun q => absurd rfl q)
        exact hnext G C M _ _ _ _ _ (by omega) (by omega) hW hR h12 hl
      · refine lv_tableIn (off := 563) (tgt := 595) hx hb dL_law_32 (by decide) (by decide) (by decide) (by decide) ?_
        refine lv_aload_n hx hb dL_law_595 rfl (lv_at hl 1 rfl) ?_
        refine lv_aload_n hx hb dL_law_596 rfl (lv_at hl 0 rfl) ?_
        refine lv_iload_n hx hb dL_law_597 rfl (lv_at hl 3 rfl) ?_
        refine lv_iconst (v := 1) hx hb dL_law_598 (by decide) ?_
        refine zi_add (i := i) (j := 1) hx hb rfl rfl dL_law_599 ?_
        refine va_sld hx hb hX hbl hbA hW.2.2.2.1 (vp_in_nI (n := i + 1) (by omega) (by omega)) dL_law_600 ?_
        refine z_top (y := xs (i + 1)) (by rw [nI_clamp (by omega)]) ?_
        refine lv_aload_n hx hb dL_law_601 rfl (lv_at hl 0 rfl) ?_
        refine lv_iload_n hx hb dL_law_602 rfl (lv_at hl 3 rfl) ?_
        refine lv_iconst (v := 2) hx hb dL_law_603 (by decide) ?_
        refine zi_add (i := i) (j := 2) hx hb rfl rfl dL_law_604 ?_
        refine va_sld hx hb hX hbl hbA hW.2.2.2.1 (vp_in_nI (n := i + 2) (by omega) (by omega)) dL_law_605 ?_
        refine z_top (y := xs (i + 2)) (by rw [nI_clamp (by omega)]) ?_
        refine z_callV (As := [.int (xs (i + 1)), .int (xs (i + 2))]) (rest := []) (st1 := [.int (dtT C (xs (i + 1)) (xs (i + 2)))]) hC hW LL_0 rfl rfl rfl (c_X4_driveTold l G C M  (xs (i + 1)) (xs (i + 2))) mw_X4_driveTold mv_X4_driveTold mM_L_77 ⟨Nat.le_of_ble_eq_true rfl, Nat.le_of_ble_eq_true rfl⟩ rfl rfl hl.1 (lv_room (Nat.le_of_ble_eq_true rfl)) dL_law_606 rfl (fun H locs hW => ?_) ⟨hcl, hsl⟩
        have hm := t_driveTold l G C hR (xs (i + 1)) (xs (i + 2))
        refine lv_aload_n hx hb dL_law_609 rfl (lv_at hl 2 rfl) ?_
        refine lv_aload_n hx hb dL_law_610 rfl (lv_at hl 0 rfl) ?_
        refine lv_iload_n hx hb dL_law_611 rfl (lv_at hl 3 rfl) ?_
        refine lv_iconst (v := 1) hx hb dL_law_612 (by decide) ?_
        refine zi_add (i := i) (j := 1) hx hb rfl rfl dL_law_613 ?_
        refine va_sld hx hb hX hbl hbA hW.2.2.2.1 (vp_in_nI (n := i + 1) (by omega) (by omega)) dL_law_614 ?_
        refine z_top (y := xs (i + 1)) (by rw [nI_clamp (by omega)]) ?_
        refine lv_aload_n hx hb dL_law_615 rfl (lv_at hl 0 rfl) ?_
        refine lv_iload_n hx hb dL_law_616 rfl (lv_at hl 3 rfl) ?_
        refine lv_iconst (v := 2) hx hb dL_law_617 (by decide) ?_
        refine zi_add (i := i) (j := 2) hx hb rfl rfl dL_law_618 ?_
        refine va_sld hx hb hX hbl hbA hW.2.2.2.1 (vp_in_nI (n := i + 2) (by omega) (by omega)) dL_law_619 ?_
        refine z_top (y := xs (i + 2)) (by rw [nI_clamp (by omega)]) ?_
        refine z_callV (As := [.int (xs (i + 1)), .int (xs (i + 2))]) (rest := [.int (dtT C (xs (i + 1)) (xs (i + 2)))]) (st1 := [.int (dtT C (xs (i + 1)) (xs (i + 2))), .int (dtT C (xs (i + 1)) (xs (i + 2)))]) hC hW LL_12 rfl rfl rfl (hm) mw_X5_driveTold mv_X5_driveTold mM_L_80 ⟨Nat.le_of_ble_eq_true rfl, Nat.le_of_ble_eq_true rfl⟩ rfl rfl hl.1 (lv_room (Nat.le_of_ble_eq_true rfl)) dL_law_620 rfl (fun H locs hW => ?_) ⟨hcl, hsl⟩
        refine lv_icmp_eq (tgt := 664) hx hb dL_law_623 (by decide) (fun _ => ?_) (fun q => absurd rfl q)
        exact hnext G C M _ _ _ _ _ (by omega) (by omega) hW hR h12 hl
      · refine lv_tableIn (off := 596) (tgt := 628) hx hb dL_law_32 (by decide) (by decide) (by decide) (by decide) ?_
        refine lv_aload_n hx hb dL_law_628 rfl (lv_at hl 1 rfl) ?_
        refine lv_aload_n hx hb dL_law_629 rfl (lv_at hl 0 rfl) ?_
        refine lv_iload_n hx hb dL_law_630 rfl (lv_at hl 3 rfl) ?_
        refine lv_iconst (v := 1) hx hb dL_law_631 (by decide) ?_
        refine zi_add (i := i) (j := 1) hx hb rfl rfl dL_law_632 ?_
        refine va_sld hx hb hX hbl hbA hW.2.2.2.1 (vp_in_nI (n := i + 1) (by omega) (by omega)) dL_law_633 ?_
        refine z_top (y := xs (i + 1)) (by rw [nI_clamp (by omega)]) ?_
        refine z_callV (As := [.int (xs (i + 1))]) (rest := []) (st1 := [.int (toT C (xs (i + 1)))]) hC hW LL_0 rfl rfl rfl (c_X4_told l G C M  (xs (i + 1))) mw_X4_told mv_X4_told mM_L_81 ⟨Nat.le_of_ble_eq_true rfl, Nat.le_of_ble_eq_true rfl⟩ rfl rfl hl.1 (lv_room (Nat.le_of_ble_eq_true rfl)) dL_law_634 rfl (fun H locs hW => ?_) ⟨hcl, hsl⟩
        have hm := t_told l G C hR (xs (i + 1))
        refine lv_aload_n hx hb dL_law_637 rfl (lv_at hl 2 rfl) ?_
        refine lv_aload_n hx hb dL_law_638 rfl (lv_at hl 0 rfl) ?_
        refine lv_iload_n hx hb dL_law_639 rfl (lv_at hl 3 rfl) ?_
        refine lv_iconst (v := 1) hx hb dL_law_640 (by decide) ?_
        refine zi_add (i := i) (j := 1) hx hb rfl rfl dL_law_641 ?_
        refine va_sld hx hb hX hbl hbA hW.2.2.2.1 (vp_in_nI (n := i + 1) (by omega) (by omega)) dL_law_642 ?_
        refine z_top (y := xs (i + 1)) (by rw [nI_clamp (by omega)]) ?_
        refine z_callV (As := [.int (xs (i + 1))]) (rest := [.int (toT C (xs (i + 1)))]) (st1 := [.int (toT C (xs (i + 1))), .int (toT C (xs (i + 1)))]) hC hW LL_12 rfl rfl rfl (hm) mw_X5_told mv_X5_told mM_L_84 ⟨Nat.le_of_ble_eq_true rfl, Nat.le_of_ble_eq_true rfl⟩ rfl rfl hl.1 (lv_room (Nat.le_of_ble_eq_true rfl)) dL_law_643 rfl (fun H locs hW => ?_) ⟨hcl, hsl⟩
        refine lv_icmp_eq (tgt := 664) hx hb dL_law_646 (by decide) (fun _ => ?_) (fun q => absurd rfl q)
        exact hnext G C M _ _ _ _ _ (by omega) (by omega) hW hR h12 hl
      · refine lv_tableIn (off := 619) (tgt := 651) hx hb dL_law_32 (by decide) (by decide) (by decide) (by decide) ?_
        refine lv_aload_n hx hb dL_law_651 rfl (lv_at hl 1 rfl) ?_
        refine z_callV (As := []) (rest := []) (st1 := [.int (cF C 0 0 7)]) hC hW LL_0 rfl rfl rfl (c_X4_fold l G C M  ) mw_X4_fold mv_X4_fold mM_L_85 ⟨Nat.le_of_ble_eq_true rfl, Nat.le_of_ble_eq_true rfl⟩ rfl rfl hl.1 (lv_room (Nat.le_of_ble_eq_true rfl)) dL_law_652 rfl (fun H locs hW => ?_) ⟨hcl, hsl⟩
        have hm := t_fold l G C hR 
        refine lv_aload_n hx hb dL_law_655 rfl (lv_at hl 2 rfl) ?_
        refine z_callV (As := []) (rest := [.int (cF C 0 0 7)]) (st1 := [.int (cF C 0 0 7), .int (cF C 0 0 7)]) hC hW LL_12 rfl rfl rfl (hm) mw_X5_fold mv_X5_fold mM_L_89 ⟨Nat.le_of_ble_eq_true rfl, Nat.le_of_ble_eq_true rfl⟩ rfl rfl hl.1 (lv_room (Nat.le_of_ble_eq_true rfl)) dL_law_656 rfl (fun H locs hW => ?_) ⟨hcl, hsl⟩
        refine lv_icmp_eq (tgt := 664) hx hb dL_law_659 (by decide) (fun _ => ?_) (fun q => absurd rfl q)
        exact hnext G C M _ _ _ _ _ (by omega) (by omega) hW hR h12 hl
      · refine lv_tableOut (tgt := 664) hx hb dL_law_32 (Or.inr ?_) (by decide) ?_
        · have e2 : (nI j).toInt = (j : Int) := nI_toInt (by omega)
          rw [e2]; omega
        · exact hnext G C M _ _ _ _ _ (by omega) (by omega) hW hR h12 hl

