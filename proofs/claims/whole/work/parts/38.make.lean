/-! ===== methods that make cells: rows ===== -/
/-- what the tables say beside the words that every state keeps -/
def EX (U : State) : Prop := va_AO RX1 U ∧ va_AO RX3 U ∧ va_Nw (.methodLinkNest RX4 9 yX2_init RX4) U
theorem EX.warm {s U : State} (hW : s.WarmedH U.vm) (h : EX s) : EX U := ⟨h.1.moved hW.alike, h.2.1.moved hW.alike, h.2.2.warmM hW⟩
theorem EX.same {u U : State} (e : u.vm = U.vm) (h : EX u) : EX U := ⟨h.1.moved (by rw [e]; exact Vm.Alike.refl _), h.2.1.moved (by rw [e]; exact Vm.Alike.refl _), va_Nw.same rfl e h.2.2⟩
def Pgt (G : GG) (vs : List Value) (w : va_W) (sz : Nat) : Array Value → State → Prop := va_Pc vs (fun U => U.heap.size = sz ∧ va_P (gD G) vwCl w U.heap ∧ va_K (gD G) vwCl (TYS G) U ∧ va_D (fun _ => True) w ∧ EX U)
def Qgt (G : GG) (w : va_W) (P : va_W → Prop) (sz : Nat) (r : Option Value) : Array Value → State → Outcome → State → Prop := fun _ st oc t => (oc = .returned r ∧ ∃ w1, P w1 ∧ va_P (gD G) vwCl w1 t.heap ∧ va_D (va_A w sz) w1) ∧ va_F (va_A w sz) st t
/-- a method that makes cells: from the world w it answers r, and the world is one of P -/
def Gt (l : Launch) (G : GG) (y : MethodName) (bytes : ByteArray) (maxL : Nat) (ret : Option FieldType) (fr lo mc ms : Nat) (vs : List Value) (w : va_W) (r : Option Value) (P : va_W → Prop) : Prop :=
  ∀ sz : Nat, Met l y (Cond.code y bytes maxL ret :: TT) { frames := fr, cells := mc, slots := ms, locals := lo } (Pgt G vs w sz) (Qgt G w P sz r) mc ms (va_A w sz)
theorem Pgt.blind {G : GG} {vs : List Value} {w : va_W} {sz : Nat} : FrameBlind (Pgt G vs w sz) := fun a U g mk q => by
  obtain ⟨q0, q1, qP, qK, qD, qE⟩ := q
  exact ⟨q0, q1, qP, va_K.moved (u := U) (U := U.calling g mk a) (Vm.Alike.refl U.vm) qK, qD, EX.same (u := U) (U := U.calling g mk a) rfl qE⟩
section NR
variable {p : Program} {l : Launch} {e : Env} {R : Room} {s : State} {m : MethodId} {args : Array Value} {below : List Frame} {meth : Method} {c : Code} {H : Heap} {locs : List Loc} {cells slots : Nat} {Q : State → Prop}
variable {cc : ByteArray} {nL : Nat} {own : String} {pc : Nat} {ls : Array Slot} {rest st0 : List Value} {G : GG} {A : Nat → Prop} {H0 : Heap} {ws : va_W}
theorem n_arrI (hC : CallFix p m c cc nL s args TT own) (hK : va_K (gD G) vwCl (TYS G) s) (hP : va_P (gD G) vwCl ws H) (hD : va_D A ws) (hS : va_S A H0 H locs) (hA : ∀ q, H0.size ≤ q → A q) {x : Int32} {N : Nat} (hx : x = nI N) (hN : N ≤ 20000) (hcells : cells + 1 ≤ R.cells) (hslots : slots + N ≤ R.slots) (hdg : decode cc pc = .ok (.newarray .int, 2))
    (kk : ∀ (q : Nat) (H1 : Heap), va_P (gD G) vwCl (ws ++ [(q, .inl (gI G, N, .inl (fun _ => 0)))]) H1 → va_D A (ws ++ [(q, .inl (gI G, N, .inl (fun _ => 0)))]) → va_S A H0 H1 locs → W p l e R s m args below meth c H1 locs (cells + 1) (slots + N) Q (F0 m (pc + 2) ls (.ref q :: rest))) : W p l e R s m args below meth c H locs cells slots Q (F0 m pc ls (.int x :: rest)) := by
  subst hx
  refine va_newa (atype := .int) (ty := .int) (a0 := (N, .inl (fun _ => 0))) (N' := N) hC.1 hC.2.1 (hC.2.2.2.2 _ mA_126) rfl hK hP hD hS hA (fun cA => rfl) (nI_pos (by omega)) (nI_clamp (by omega)) (by show N * 4 ≤ _; omega) hcells hslots hdg (fun q cA H1 hK1 hP1 hD1 hS1 => ?_)
  have e : cA = gI G := by
    have h1 : s.vm.findClass ("[" ++ FieldType.int.toString) = some cA := (hK1.2 4 _ rfl).2
    have h2 : s.vm.findClass ("[" ++ FieldType.int.toString) = some (gI G) := (hK.2 0 _ rfl).2
    exact Option.some.inj (h1.symm.trans h2)
  subst e
  exact kk q H1 hP1 hD1 hS1
theorem n_arrZ (hC : CallFix p m c cc nL s args TT own) (hK : va_K (gD G) vwCl (TYS G) s) (hP : va_P (gD G) vwCl ws H) (hD : va_D A ws) (hS : va_S A H0 H locs) (hA : ∀ q, H0.size ≤ q → A q) {x : Int32} {N : Nat} (hx : x = nI N) (hN : N ≤ 20000) (hcells : cells + 1 ≤ R.cells) (hslots : slots + N ≤ R.slots) (hdg : decode cc pc = .ok (.newarray .boolean, 2))
    (kk : ∀ (q : Nat) (H1 : Heap), va_P (gD G) vwCl (ws ++ [(q, .inl (gZ G, N, .inl (fun _ => 0)))]) H1 → va_D A (ws ++ [(q, .inl (gZ G, N, .inl (fun _ => 0)))]) → va_S A H0 H1 locs → W p l e R s m args below meth c H1 locs (cells + 1) (slots + N) Q (F0 m (pc + 2) ls (.ref q :: rest))) : W p l e R s m args below meth c H locs cells slots Q (F0 m pc ls (.int x :: rest)) := by
  subst hx
  refine va_newa (atype := .boolean) (ty := .boolean) (a0 := (N, .inl (fun _ => 0))) (N' := N) hC.1 hC.2.1 (hC.2.2.2.2 _ mA_192) rfl hK hP hD hS hA (fun cA => rfl) (nI_pos (by omega)) (nI_clamp (by omega)) (by show N * 1 ≤ _; omega) hcells hslots hdg (fun q cA H1 hK1 hP1 hD1 hS1 => ?_)
  have e : cA = gZ G := by
    have h1 : s.vm.findClass ("[" ++ FieldType.boolean.toString) = some cA := (hK1.2 4 _ rfl).2
    have h2 : s.vm.findClass ("[" ++ FieldType.boolean.toString) = some (gZ G) := (hK.2 1 _ rfl).2
    exact Option.some.inj (h1.symm.trans h2)
  subst e
  exact kk q H1 hP1 hD1 hS1
/-- an array of references: its class is one that the world knows -/
theorem n_arrQ {Cn : String} {cQ : ClassId} {k0 index : Nat} (hC : CallFix p m c cc nL s args TT own) (hK : va_K (gD G) vwCl (TYS G) s) (hk0 : (TYS G)[k0]? = some (cQ, .object Cn)) (hO : va_AO Cn s) (hlk : Cond.classLink own index Cn ∈ TT) (hP : va_P (gD G) vwCl ws H) (hD : va_D A ws) (hS : va_S A H0 H locs) (hA : ∀ q, H0.size ≤ q → A q) {x : Int32} {N : Nat} (hx : x = nI N) (hN : N ≤ 20000) (hcells : cells + 1 ≤ R.cells) (hslots : slots + N ≤ R.slots) (hdg : decode cc pc = .ok (.anewarray index, 3))
    (kk : ∀ (q : Nat) (H1 : Heap), va_P (gD G) vwCl (ws ++ [(q, .inl (cQ, N, .inr (.inr (.inr (.inr (fun _ => none))))))]) H1 → va_D A (ws ++ [(q, .inl (cQ, N, .inr (.inr (.inr (.inr (fun _ => none))))))]) → va_S A H0 H1 locs → W p l e R s m args below meth c H1 locs (cells + 1) (slots + N) Q (F0 m (pc + 3) ls (.ref q :: rest))) : W p l e R s m args below meth c H locs cells slots Q (F0 m pc ls (.int x :: rest)) := by
  subst hx
  refine va_newq (C := Cn) (N' := N) hC.1 hC.2.1 hC.2.2.2.1 (hC.2.2.2.2 _ hlk) hO hK hP hD hS hA (nI_pos (by omega)) (nI_clamp (by omega)) (by omega) hcells hslots hdg (fun q cA H1 hK1 hP1 hD1 hS1 => ?_)
  have e : cA = cQ := by
    have h1 := (hK1.2 4 _ rfl).2
    have h2 := (hK.2 k0 _ hk0).2
    obtain ⟨_, _, _, _, _, f1⟩ := h1
    obtain ⟨_, _, _, _, _, f2⟩ := h2
    exact Option.some.inj (f1.symm.trans f2)
  subst e
  exact kk q H1 hP1 hD1 hS1
theorem n_new {Cn : String} {T : u_T} {N ci index : Nat} (hC : CallFix p m c cc nL s args TT own) (hin : ∀ w ∈ u_ws Cn T N, w ∈ TT) (ty : Nat → FieldType) (hty : ∀ k, k < N → parseFieldDescriptor (T k).2.2.1 = some (ty k)) (hcl : Cond.classLink own index Cn ∈ TT) (hinst : Cond.instantiable Cn N ∈ TT) (hini : Cond.initialized Cn ∈ TT)
    (hK : va_K (gD G) vwCl (TYS G) s) (hP : va_P (gD G) vwCl ws H) (hD : va_D A ws) (hS : va_S A H0 H locs) (hA : ∀ q, H0.size ≤ q → A q) (hc : vwCl[ci]? = some (Cn, T, N)) {fs : List Value} (hfs : ∀ j, j < N → defaultValue (ty j) = vp_V fs j) (hcells : cells + 1 ≤ R.cells) (hslots : slots + N ≤ R.slots) (hdg : decode cc pc = .ok (.new index, 3))
    (kk : ∀ (q : Nat) (H1 : Heap), va_P (gD G) vwCl (ws ++ [(q, .inr (ci, fs))]) H1 → va_D A (ws ++ [(q, .inr (ci, fs))]) → va_S A H0 H1 locs → W p l e R s m args below meth c H1 locs (cells + 1) (slots + N) Q (F0 m (pc + 3) ls (.ref q :: rest))) : W p l e R s m args below meth c H locs cells slots Q (F0 m pc ls rest) :=
  va_new hC.1 hC.2.1 hC.2.2.2.2 hin ty hty hC.2.2.2.1 (hC.2.2.2.2 _ hcl) (hC.2.2.2.2 _ hinst) (hC.2.2.2.2 _ hini) hK hP hD hS hA hc hfs hcells hslots hdg kk
theorem n_put {Cn : String} {T : u_T} {N ci index a : Nat} (hC : CallFix p m c cc nL s args TT own) (hin : ∀ w ∈ u_ws Cn T N, w ∈ TT) (ty0 : Nat → FieldType) (hty : ∀ k, k < N → parseFieldDescriptor (T k).2.2.1 = some (ty0 k)) (hnm : ∀ a, a < N → ∀ b, b < N → a ≠ b → (T a).2.1 ≠ (T b).2.1) (hK : va_K (gD G) vwCl (TYS G) s) (hP : va_P (gD G) vwCl ws H) (hD : va_D A ws) (hS : va_S A H0 H locs) (q0 : Nat) {fs : List Value} (he : ws[q0]? = some (a, .inr (ci, fs))) (hc : vwCl[ci]? = some (Cn, T, N)) (k : Nat) (hk : k < N) (hl : Cond.fieldLink own index (T k).1 (T k).2.1 (T k).2.2.1 ∈ TT) (hfin : (T k).2.2.2 = false) {ty : FieldType} {v : Value} (hd : parseFieldDescriptor (T k).2.2.1 = some ty) (hn : narrow ty v = v) (hfit : fits ty v = true) (hlen : k < fs.length) (hdg : decode cc pc = .ok (.putfield index, 3))
    (kk : ∀ (H1 : Heap) (locs1 : List Loc), va_P (gD G) vwCl (ws.set q0 (a, .inr (ci, fs.set k v))) H1 → va_D A (ws.set q0 (a, .inr (ci, fs.set k v))) → va_S A H0 H1 locs1 → W p l e R s m args below meth c H1 locs1 cells slots Q (F0 m (pc + 3) ls rest)) : W p l e R s m args below meth c H locs cells slots Q (F0 m pc ls (v :: .ref a :: rest)) :=
  va_put hC.1 hC.2.1 hC.2.2.2.2 hin ty0 hty hnm hC.2.2.2.1 hK hP hD hS q0 he hc k hk (hC.2.2.2.2 _ hl) (fun _ h => h) hfin hd hn hfit hlen hdg kk
theorem n_putF {Cn : String} {T : u_T} {N ci index a : Nat} (hC : CallFix p m c cc nL s args TT own) (hin2 : meth.name = "<init>") (hin : ∀ w ∈ u_ws Cn T N, w ∈ TT) (ty0 : Nat → FieldType) (hty : ∀ k, k < N → parseFieldDescriptor (T k).2.2.1 = some (ty0 k)) (hnm : ∀ a, a < N → ∀ b, b < N → a ≠ b → (T a).2.1 ≠ (T b).2.1) (hK : va_K (gD G) vwCl (TYS G) s) (hP : va_P (gD G) vwCl ws H) (hD : va_D A ws) (hS : va_S A H0 H locs) (q0 : Nat) {fs : List Value} (he : ws[q0]? = some (a, .inr (ci, fs))) (hc : vwCl[ci]? = some (Cn, T, N)) (k : Nat) (hk : k < N) (hl : Cond.fieldLink own index (T k).1 (T k).2.1 (T k).2.2.1 ∈ TT) (hfin : (T k).2.2.2 = true) (hdecl : (T k).1 = own) {ty : FieldType} {v : Value} (hd : parseFieldDescriptor (T k).2.2.1 = some ty) (hn : narrow ty v = v) (hfit : fits ty v = true) (hlen : k < fs.length) (hdg : decode cc pc = .ok (.putfield index, 3))
    (kk : ∀ (H1 : Heap) (locs1 : List Loc), va_P (gD G) vwCl (ws.set q0 (a, .inr (ci, fs.set k v))) H1 → va_D A (ws.set q0 (a, .inr (ci, fs.set k v))) → va_S A H0 H1 locs1 → W p l e R s m args below meth c H1 locs1 cells slots Q (F0 m (pc + 3) ls rest)) : W p l e R s m args below meth c H locs cells slots Q (F0 m pc ls (v :: .ref a :: rest)) :=
  va_putF hC.1 hC.2.1 hC.2.2.2.2 hin ty0 hty hnm hC.2.2.2.1 hK hP hD hS q0 he hc k hk (hC.2.2.2.2 _ hl) (fun _ h => h) hfin hin2 hdecl hd hn hfit hlen hdg kk
theorem n_get {Cn : String} {T : u_T} {N ci index a : Nat} (hC : CallFix p m c cc nL s args TT own) (hin : ∀ w ∈ u_ws Cn T N, w ∈ TT) (hK : va_K (gD G) vwCl (TYS G) s) (hP : va_P (gD G) vwCl ws H) (q0 : Nat) {fs : List Value} (he : ws[q0]? = some (a, .inr (ci, fs))) (hc : vwCl[ci]? = some (Cn, T, N)) (k : Nat) (hk : k < N) (hl : Cond.fieldLink own index (T k).1 (T k).2.1 (T k).2.2.1 ∈ TT) {v : Value} (hv : fs[k]? = some v) (hdg : decode cc pc = .ok (.getfield index, 3))
    (kk : W p l e R s m args below meth c H locs cells slots Q (F0 m (pc + 3) ls (v :: rest))) : W p l e R s m args below meth c H locs cells slots Q (F0 m pc ls (.ref a :: rest)) :=
  va_get hC.1 hC.2.1 hC.2.2.2.2 hin hC.2.2.2.1 hK hP q0 he hc k hk (hC.2.2.2.2 _ hl) (fun _ h => h) hv hdg kk
theorem n_obj {index a : Nat} (hC : CallFix p m c cc nL s args TT own) (hlk : Cond.methodLink own index objectInit ∈ TT) (hsz : ls.size = nL) (hfr : 1 ≤ R.frames) (hlo : 12 ≤ R.locals) (hdg : decode cc pc = .ok (.invokespecial index, 3))
    (kk : W p l e R s m args below meth c H locs cells slots Q (F0 m (pc + 3) ls [])) : W p l e R s m args below meth c H locs cells slots Q (F0 m pc ls [.ref a]) := by
  refine W.objInit hC.1 hC.2.1 hC.2.2.2.1 (hC.2.2.2.2 _ hlk) (hC.2.2.2.2 _ mI_objectInit) (hC.2.2.2.2 _ mC_objectInit) rfl (hsz.trans hC.2.2.1.symm) rfl hdg hfr (by show 2 * 0 + 0 + 12 ≤ _; omega) ?_
  exact W.eq (g2 := F0 m (pc + 3) ls []) rfl kk
variable {y : MethodName} {bytes : ByteArray} {maxL fr lo mc ms n : Nat} {ret : Option FieldType} {As : List Value} {wc wr : va_W} {P : va_W → Prop} {r : Option Value}
theorem Pgt.of {vs : List Value} (hK : va_K (gD G) vwCl (TYS G) s) (hP : va_P (gD G) vwCl wc H) (hD : va_D A wc) (hE : EX s) {U : State} (hU : U.heap = H) (hw : s.WarmedH U.vm) : Pgt G vs wc H.size vs.toArray U :=
  ⟨rfl, by rw [hU], by rw [hU]; exact hP, va_K.moved hw.alike hK, hD.weaken (fun _ _ _ _ => trivial), hE.warm hw⟩
theorem n_back {b : Nat} (hP : va_P (gD G) vwCl ws H) (hD : va_D A ws) (hS : va_S A H0 H locs) (hA : ∀ q, H0.size ≤ q → A q) (isC isR : List Nat) (hCs : isC.map (fun i => ws[i]?) = wc.map some) (hRs : isR.map (fun i => ws[i]?) = wr.map some) (hnd : va_nd isR = true) (hdis : ∀ i ∈ isR, i ∉ isC)
    (hr : va_Run p l e R s m args below meth c H locs cells slots mc ms (F0 m pc ls st0) rest (Qgt G wc P H.size r (Value.ref b :: As).toArray) (va_A wc H.size))
    (kk : ∀ (w1 : va_W) (H1 : Heap) (locs1 : List Loc), P w1 → va_P (gD G) vwCl (wr ++ w1) H1 → va_D A (wr ++ w1) → va_S A H0 H1 locs1 → W p l e R s m args below meth c H1 locs1 (cells + mc) (slots + ms) Q (F0 m (pc + 3) ls (r.toList ++ rest))) : W p l e R s m args below meth c H locs cells slots Q (F0 m pc ls st0) := by
  have hF := va_free hD hS hA isC hCs
  intro T hT X
  obtain ⟨v, st₀, t, T', L, h0, X', hL, e1, e2, ⟨⟨hv, w1, hp, hP1, hD1⟩, hz, hk⟩, st⟩ := hr T hT X
  cases hv
  rw [h0] at hz hk
  obtain ⟨j1, j2⟩ := va_join (H1 := t.heap) hP hD isC isR hCs hRs hnd hdis hk hF hP1 hD1
  obtain ⟨t2, a1, b1⟩ := kk w1 T'.heap (locs ++ L) hp (by rw [e1]; exact j1) j2 ⟨Nat.le_trans hS.1 (by rw [e1]; exact hz), fun q h1 h2 => by
      rw [e1, hk q (Nat.lt_of_lt_of_le h1 hS.1) (fun z => h2 (hF q z))]
      exact hS.2.1 q h1 h2, fun q hq => by
      rcases List.mem_append.mp hq with h | h
      · exact hS.2.2 q h
      · exact hF _ (hL q h)⟩ T' rfl X'
  exact ⟨t2, st t2 a1, b1⟩
/-- a constructor's call -/
theorem n_callI {b index : Nat} (hC : CallFix p m c cc nL s args TT own) (hK : va_K (gD G) vwCl (TYS G) s) (hE : EX s) (hP : va_P (gD G) vwCl ws H) (hD : va_D A ws) (hS : va_S A H0 H locs) (hA : ∀ q, H0.size ≤ q → A q) (isC isR : List Nat) (hCs : isC.map (fun i => ws[i]?) = wc.map some) (hRs : isR.map (fun i => ws[i]?) = wr.map some) (hnc : va_nd isC = true) (hnd : va_nd isR = true) (hdis : ∀ i ∈ isR, i ∉ isC) (hPc : isC.filterMap (fun i => ws[i]?) = wc)
    (hM : Gt l G y bytes maxL none fr lo mc ms (.ref b :: As) wc none P) (hw : MW y bytes maxL none n) (hy1 : y.name = "<init>") (hv : Cond.instanceMethod y ∈ TT) (hlk : Cond.methodLink own index y ∈ TT) (hR : fr + 1 ≤ R.frames ∧ 8 + (maxL + 11) + lo ≤ R.locals) (hf : cells + mc ≤ R.cells ∧ slots + ms ≤ R.slots)
    (hn : As.length = n) (hst : st0 = As.reverse ++ .ref b :: rest) (hsz : ls.size = nL) (hroom : 2 * (F0 m pc ls st0).monitorRoom + (rest.map fun v => v.category).sum ≤ 8) (hdg : decode cc pc = .ok (.invokespecial index, 3))
    (kk : ∀ (w1 : va_W) (H1 : Heap) (locs1 : List Loc), P w1 → va_P (gD G) vwCl (wr ++ w1) H1 → va_D A (wr ++ w1) → va_S A H0 H1 locs1 → W p l e R s m args below meth c H1 locs1 (cells + mc) (slots + ms) Q (F0 m (pc + 3) ls rest)) : W p l e R s m args below meth c H locs cells slots Q (F0 m pc ls st0) :=
  n_back (r := none) hP hD hS hA isC isR hCs hRs hnd hdis (va_runI (As := As) (rest := rest) hC (hM H.size) ⟨⟨rfl, rfl, hR.1, hR.2, code_pay hC.2.2.2.2 hw.1, List.mem_cons_self, hC.2.2.2.2 _ hw.1, hC.2.2.2.2 _ hw.2.1, hw.2.2.1, fun sig h => by
    have h2 := hw.2.2.2
    rw [h] at h2
    exact (Option.some.inj h2).symm, hC.2.2.2.2 _ hlk⟩, hy1, hC.2.2.2.2 _ hv⟩ ⟨Pgt.blind, fun U hU hWm => Pgt.of hK (hP.sub isC hPc) (hD.sub isC hnc hCs) hE hU hWm⟩ rfl hn hsz hst hroom hdg hf) kk
/-- a nest mate's constructor's call -/
theorem n_callN {b index : Nat} {host : String} (hC : CallFix p m c cc nL s args TT own) (hK : va_K (gD G) vwCl (TYS G) s) (hE : EX s) (hP : va_P (gD G) vwCl ws H) (hD : va_D A ws) (hS : va_S A H0 H locs) (hA : ∀ q, H0.size ≤ q → A q) (isC isR : List Nat) (hCs : isC.map (fun i => ws[i]?) = wc.map some) (hRs : isR.map (fun i => ws[i]?) = wr.map some) (hnc : va_nd isC = true) (hnd : va_nd isR = true) (hdis : ∀ i ∈ isR, i ∉ isC) (hPc : isC.filterMap (fun i => ws[i]?) = wc)
    (hM : Gt l G y bytes maxL none fr lo mc ms (.ref b :: As) wc none P) (hw : MW y bytes maxL none n) (hy1 : y.name = "<init>") (hv : Cond.instanceMethod y ∈ TT) (hlk : va_Nw (.methodLinkNest own index y host) s) (hR : fr + 1 ≤ R.frames ∧ 8 + (maxL + 11) + lo ≤ R.locals) (hf : cells + mc ≤ R.cells ∧ slots + ms ≤ R.slots)
    (hn : As.length = n) (hst : st0 = As.reverse ++ .ref b :: rest) (hsz : ls.size = nL) (hroom : 2 * (F0 m pc ls st0).monitorRoom + (rest.map fun v => v.category).sum ≤ 8) (hdg : decode cc pc = .ok (.invokespecial index, 3))
    (kk : ∀ (w1 : va_W) (H1 : Heap) (locs1 : List Loc), P w1 → va_P (gD G) vwCl (wr ++ w1) H1 → va_D A (wr ++ w1) → va_S A H0 H1 locs1 → W p l e R s m args below meth c H1 locs1 (cells + mc) (slots + ms) Q (F0 m (pc + 3) ls rest)) : W p l e R s m args below meth c H locs cells slots Q (F0 m pc ls st0) :=
  n_back (r := none) hP hD hS hA isC isR hCs hRs hnd hdis (va_runIN (As := As) (rest := rest) hC (hM H.size) ⟨⟨⟨rfl, rfl, hR.1, hR.2, code_pay hC.2.2.2.2 hw.1, List.mem_cons_self⟩, hC.2.2.2.2 _ hw.1, hC.2.2.2.2 _ hw.2.1, hw.2.2.1, fun sig h => by
    have h2 := hw.2.2.2
    rw [h] at h2
    exact (Option.some.inj h2).symm, va_Nw.use rfl hlk⟩, hy1, hC.2.2.2.2 _ hv⟩ ⟨Pgt.blind, fun U hU hWm => Pgt.of hK (hP.sub isC hPc) (hD.sub isC hnc hCs) hE hU hWm⟩ rfl hn hsz hst hroom hdg hf) kk
end NR
/-- a constructor's body, from its entry -/
def BodG (l : Launch) (G : GG) (y : MethodName) (bytes : ByteArray) (maxL fr lo mc ms : Nat) (vs : List Value) (w : va_W) (E : (JFrame → Heap → List Loc → Nat → Nat → Prop) → MethodId → State → (Nat → Prop) → Prop) : Prop :=
  ∀ {p : Program} {e : Env} {s : State} {m : MethodId} {args : Array Value} {below : List Frame} {meth : Method} {c : Code} {A : Nat → Prop} {Q : State → Prop} {ls : Array Slot},
    CallFix p m c bytes maxL s args TT y.cls → meth.name = y.name → va_K (gD G) vwCl (TYS G) s → EX s → va_P (gD G) vwCl w s.heap → va_D A w → va_S A s.heap s.heap [] → (∀ q, s.heap.size ≤ q → A q) → lv_has ls maxL (lv_args 0 vs) →
    E (fun g H locs cells slots => W p l e { frames := fr, cells := mc, slots := ms, locals := lo } s m args below meth c H locs cells slots Q g) m s A →
    W p l e { frames := fr, cells := mc, slots := ms, locals := lo } s m args below meth c s.heap [] 0 0 Q (F0 m 0 ls [])
theorem Gt_v {l : Launch} {G : GG} {y : MethodName} {bytes : ByteArray} {maxL fr lo mc ms : Nat} {vs : List Value} {w : va_W} {P : va_W → Prop} (hy : plainName y.cls = true) (hfit : (lg_sl vs).length ≤ maxL)
    (body : BodG l G y bytes maxL fr lo mc ms vs w (fun Pw m s A => ∀ {H : Heap} {locs : List Loc} {pc : Nat} {ls : Array Slot} {cells slots : Nat} {w1 : va_W}, cells ≤ mc → slots ≤ ms → P w1 → va_P (gD G) vwCl w1 H → va_D A w1 → va_S A s.heap H locs → decode bytes pc = .ok (.return_, 1) → Pw (F0 m pc ls []) H locs cells slots)) :
    Gt l G y bytes maxL none fr lo mc ms vs w none P := by
  intro sz
  refine Met.ofW (cc := bytes) (maxL := maxL) (ret := none) hy rfl ?_
  intro p e s m args below meth c s₁ B hml hv
  obtain ⟨rfl, hsz, hP, hK, hD0, hE⟩ := hv
  have hx := B.exec
  have hb := B.bytes
  have hr := B.returns
  have hts := atoms_spec (ws := Cond.code y bytes maxL none :: TT) B.pre
  have hown : s.vm.findClass y.cls = some m.cls := findClass_of_methodNamed B.named
  have hlocks := B.notSynchronized
  have hin : meth.name = y.name := (name_of_methodNamed B.named B.method).1
  subst hsz
  have hD := hD0.self (sz := s.heap.size)
  have hl := lv_entry vs (n := maxL) hfit
  rw [lg_entry_eq]
  refine body (A := va_A w s.heap.size) ⟨hx, hb, hml, hown, fun w h => hts w (List.mem_cons_of_mem _ h)⟩ hin hK hE hP hD va_S.rf (fun q h => Or.inr h) hl ?_
  intro H locs pc ls cells slots w1 h1 h2 hp hP1 hD1 hS1 hdg
  refine W.widen h1 h2 ?_
  exact W.vret hx hb hr (fun t ht hWm => ⟨⟨rfl, w1, hp, by rw [ht]; exact hP1, hD1⟩, hS1.F ht⟩) hS1.2.2 hdg
