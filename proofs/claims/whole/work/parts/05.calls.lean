/-! ===== calls, and a method's start and end ===== -/
section ZC
variable {p : Program} {l : Launch} {e : Env} {R : Room} {s : State} {m : MethodId} {args : Array Value} {below : List Frame} {meth : Method} {c : Code} {H : Heap} {locs : List Loc} {cells slots : Nat} {Q : State → Prop}
variable {cc : ByteArray} {nL : Nat} {own : String} {pc : Nat} {ls : Array Slot} {rest st0 st1 : List Value} {G : GG} {A : Nat → Prop} {H0 : Heap} {C C' : CS} {M M' : MS} {r : Option Value}
variable {y : MethodName} {bytes : ByteArray} {maxL fr lo n : Nat} {ret : Option FieldType} {vs : List Value}
def Pct (G : GG) (vs : List Value) (C : CS) (M : MS) (sz : Nat) : Array Value → State → Prop := va_Pc vs (fun U => U.heap.size = sz ∧ va_P (gD G) vwCl (world G C M) U.heap ∧ va_K (gD G) vwCl (TYS G) U ∧ va_D (fun _ => True) (world G C M))
def Qct (G : GG) (C : CS) (M : MS) (r : Option Value) (C' : CS) (M' : MS) (sz : Nat) : Array Value → State → Outcome → State → Prop := fun _ st oc t => (oc = .returned r ∧ va_P (gD G) vwCl (world G C' M') t.heap ∧ va_K (gD G) vwCl (TYS G) t ∧ va_D (va_A (world G C M) sz) (world G C' M')) ∧ va_F (va_A (world G C M) sz) st t
theorem Ct.met (h : Ct l G y bytes maxL ret fr lo vs C M r C' M') (sz : Nat) : Met l y (Cond.code y bytes maxL ret :: TT) { frames := fr, cells := 0, slots := 0, locals := lo } (Pct G vs C M sz) (Qct G C M r C' M' sz) 0 0 (va_A (world G C M) sz) := h sz
theorem Pct.blind {sz : Nat} : FrameBlind (Pct G vs C M sz) := fun a U g mk q => by
  obtain ⟨q0, q1, qP, qK, qD⟩ := q
  exact ⟨q0, q1, qP, va_K.moved (u := U) (U := U.calling g mk a) (Vm.Alike.refl U.vm) qK, qD⟩
theorem Pct.of (hW : Wd G s A H0 H locs C M) {U : State} (hU : U.heap = H) (hw : s.WarmedH U.vm) : Pct G vs C M H.size vs.toArray U :=
  ⟨rfl, by rw [hU], by rw [hU]; exact hW.2.1, va_K.moved hw.alike hW.1, hW.2.2.1.weaken (fun _ _ _ _ => trivial)⟩
theorem Wd.free (hW : Wd G s A H0 H locs C M) (q : Nat) (h : va_A (world G C M) H.size q) : A q := by
  rcases h with ⟨k, e, h⟩ | h
  · exact hW.2.2.1.2 k _ h
  · exact hW.2.2.2.2 q (Nat.le_trans hW.2.2.2.1.1 h)
theorem z_back (hW : Wd G s A H0 H locs C M) (hr : va_Run p l e R s m args below meth c H locs cells slots 0 0 (F0 m pc ls st0) rest (Qct G C M r C' M' H.size vs.toArray) (va_A (world G C M) H.size))
    (kk : ∀ (H1 : Heap) (locs1 : List Loc), Wd G s A H0 H1 locs1 C' M' → W p l e R s m args below meth c H1 locs1 cells slots Q (F0 m (pc + 3) ls (r.toList ++ rest))) : W p l e R s m args below meth c H locs cells slots Q (F0 m pc ls st0) := by
  intro T hT X
  obtain ⟨v, st₀, t, T', L, h0, X', hL, e1, e2, ⟨⟨hv, hP1, hK1, hD1⟩, hz, hk⟩, st⟩ := hr T hT X
  cases hv
  rw [h0] at hz hk
  obtain ⟨t2, a1, b1⟩ := kk T'.heap (locs ++ L) ⟨hW.1, by rw [e1]; exact hP1, hD1.weaken (fun k q _ h => hW.free q.1 h), ⟨Nat.le_trans hW.2.2.2.1.1 (by rw [e1]; exact hz), fun q h1 h2 => by
      rw [e1, hk q (Nat.lt_of_lt_of_le h1 hW.2.2.2.1.1) (fun z => h2 (hW.free q z))]
      exact hW.2.2.2.1.2.1 q h1 h2, fun q hq => by
      rcases List.mem_append.mp hq with h | h
      · exact hW.2.2.2.1.2.2 q h
      · exact hW.free _ (hL q h)⟩, hW.2.2.2.2⟩ T' rfl X'
  exact ⟨t2, st t2 a1, b1⟩
theorem z_cb {index : Nat} (hC : CallFix p m c cc nL s args TT own) (hw : MW y bytes maxL ret n) (hlk : Cond.methodLink own index y ∈ TT) (hR : fr + 1 ≤ R.frames ∧ 8 + (maxL + 11) + lo ≤ R.locals) :
    CallB R s args own index y bytes maxL ret (Cond.code y bytes maxL ret :: TT) { frames := fr, cells := 0, slots := 0, locals := lo } 0 0 n :=
  ⟨rfl, rfl, hR.1, hR.2, code_pay hC.2.2.2.2 hw.1, List.mem_cons_self, hC.2.2.2.2 _ hw.1, hC.2.2.2.2 _ hw.2.1, hw.2.2.1, fun sig h => by
    have h2 := hw.2.2.2
    rw [h] at h2
    exact (Option.some.inj h2).symm, hC.2.2.2.2 _ hlk⟩
/-- a call of an object's method -/
theorem z_callV {f i ci index N : Nat} {fs As : List Value} {Cn : String} {T : u_T} (hC : CallFix p m c cc nL s args TT own) (hW : Wd G s A H0 H locs C M) (hi : (f, i) ∈ LL (zn G)) (he : enc G C M f i = .inr (ci, fs)) (hc : vwCl[ci]? = some (Cn, T, N)) (hy : y.cls = Cn)
    (hM : Ct l G y bytes maxL ret fr lo (.ref (zad G f i) :: As) C M r C' M') (hw : MW y bytes maxL ret n) (hv : MWv y) (hlk : Cond.methodLink own index y ∈ TT) (hR : fr + 1 ≤ R.frames ∧ 8 + (maxL + 11) + lo ≤ R.locals)
    (hn : As.length = n) (hst : st0 = As.reverse ++ .ref (zad G f i) :: rest) (hsz : ls.size = nL) (hroom : 2 * (F0 m pc ls st0).monitorRoom + (rest.map fun v => v.category).sum ≤ 8) (hdg : decode cc pc = .ok (.invokevirtual index, 3)) (h1 : r.toList ++ rest = st1)
    (kk : ∀ (H1 : Heap) (locs1 : List Loc), Wd G s A H0 H1 locs1 C' M' → W p l e R s m args below meth c H1 locs1 cells slots Q (F0 m (pc + 3) ls st1)) (hf : cells ≤ R.cells ∧ slots ≤ R.slots) : W p l e R s m args below meth c H locs cells slots Q (F0 m pc ls st0) := by
  subst h1
  obtain ⟨q0, hq⟩ := w_get (G := G) (M := M) hi
  rw [he] at hq
  have hs : Cond.selects Cn y y ∈ TT := by rw [← hy]; exact hv.2
  refine z_back hW (va_runV (C := Cn) (As := As) (rest := rest) hC (hM.met H.size) ⟨z_cb hC hw hlk hR, hC.2.2.2.2 _ hv.1, hC.2.2.2.2 _ hs⟩ ⟨Pct.blind, va_recv hW.1 hW.2.1 hc hq, fun U hU hWm => Pct.of hW hU hWm⟩ rfl hn hsz hst hroom hdg hf) kk
/-- a call of a static method -/
theorem z_callS {index : Nat} (hC : CallFix p m c cc nL s args TT own) (hW : Wd G s A H0 H locs C M)
    (hM : Ct l G y bytes maxL ret fr lo vs C M r C' M') (hw : MW y bytes maxL ret n) (hv : Cond.static y ∈ TT) (hlk : Cond.methodLink own index y ∈ TT) (hR : fr + 1 ≤ R.frames ∧ 8 + (maxL + 11) + lo ≤ R.locals)
    (hn : vs.length = n) (hst : st0 = vs.reverse ++ rest) (hsz : ls.size = nL) (hroom : 2 * (F0 m pc ls st0).monitorRoom + (rest.map fun v => v.category).sum ≤ 8) (hdg : decode cc pc = .ok (.invokestatic index, 3)) (h1 : r.toList ++ rest = st1)
    (kk : ∀ (H1 : Heap) (locs1 : List Loc), Wd G s A H0 H1 locs1 C' M' → W p l e R s m args below meth c H1 locs1 cells slots Q (F0 m (pc + 3) ls st1)) (hf : cells ≤ R.cells ∧ slots ≤ R.slots) : W p l e R s m args below meth c H locs cells slots Q (F0 m pc ls st0) := by
  subst h1
  exact z_back hW (va_runS (As := vs) (rest := rest) hC (hM.met H.size) ⟨z_cb hC hw hlk hR, hC.2.2.2.2 _ hv⟩ ⟨Pct.blind, fun U hU hWm => Pct.of hW hU hWm⟩ rfl hn hsz hst hroom hdg hf) kk
end ZC
/-- a method's body, from its entry: ends are given -/
def Bod (l : Launch) (G : GG) (y : MethodName) (bytes : ByteArray) (maxL fr lo : Nat) (vs : List Value) (C : CS) (M : MS) (E : (JFrame → Heap → List Loc → Prop) → MethodId → State → (Nat → Prop) → Prop) : Prop :=
  ∀ {p : Program} {e : Env} {s : State} {m : MethodId} {args : Array Value} {below : List Frame} {meth : Method} {c : Code} {A : Nat → Prop} {Q : State → Prop} {ls : Array Slot},
    CallFix p m c bytes maxL s args TT y.cls → Wd G s A s.heap s.heap [] C M → lv_has ls maxL (lv_args 0 vs) →
    E (fun g H locs => W p l e { frames := fr, cells := 0, slots := 0, locals := lo } s m args below meth c H locs 0 0 Q g) m s A →
    W p l e { frames := fr, cells := 0, slots := 0, locals := lo } s m args below meth c s.heap [] 0 0 Q (F0 m 0 ls [])
section ZS
variable {l : Launch} {G : GG} {y : MethodName} {bytes : ByteArray} {maxL fr lo : Nat} {vs : List Value} {C C' : CS} {M M' : MS}
theorem Ct_i {x : Int32} (hy : plainName y.cls = true) (hfit : (lg_sl vs).length ≤ maxL) (body : Bod l G y bytes maxL fr lo vs C M (fun P m s A => ∀ {H : Heap} {locs : List Loc} {pc : Nat} {ls : Array Slot} {z : Int32}, Wd G s A s.heap H locs C' M' → z = x → decode bytes pc = .ok (.ireturn, 1) → P (F0 m pc ls [.int z]) H locs)) :
    Ct l G y bytes maxL (some .int) fr lo vs C M (some (.int x)) C' M' := by
  intro sz
  refine Met.ofW (cc := bytes) (maxL := maxL) (ret := some .int) hy rfl ?_
  intro p e s m args below meth c s₁ B hml hv
  obtain ⟨rfl, hsz, hP, hK, hD0⟩ := hv
  have hx := B.exec
  have hb := B.bytes
  have hr := B.returns
  have hts := atoms_spec (ws := Cond.code y bytes maxL (some .int) :: TT) B.pre
  have hown : s.vm.findClass y.cls = some m.cls := findClass_of_methodNamed B.named
  have hlocks := B.notSynchronized
  subst hsz
  have hD := hD0.self (sz := s.heap.size)
  have hl := lv_entry vs (n := maxL) hfit
  rw [lg_entry_eq]
  refine body (A := va_A (world G C M) s.heap.size) ⟨hx, hb, hml, hown, fun w h => hts w (List.mem_cons_of_mem _ h)⟩ ⟨hK, hP, hD, va_S.rf, fun q h => Or.inr h⟩ hl ?_
  intro H locs pc ls z hW hz hdg
  subst hz
  exact W.iret hx hb hr (fun t ht hWm => ⟨⟨rfl, by rw [ht]; exact hW.2.1, va_K.moved hWm.alike hW.1, hW.2.2.1⟩, hW.2.2.2.1.F ht⟩) hW.2.2.2.1.2.2 hdg
theorem Ct_z {x : Int32} (hy : plainName y.cls = true) (hfit : (lg_sl vs).length ≤ maxL) (hb01 : x = 0 ∨ x = 1) (body : Bod l G y bytes maxL fr lo vs C M (fun P m s A => ∀ {H : Heap} {locs : List Loc} {pc : Nat} {ls : Array Slot} {z : Int32}, Wd G s A s.heap H locs C' M' → z = x → decode bytes pc = .ok (.ireturn, 1) → P (F0 m pc ls [.int z]) H locs)) :
    Ct l G y bytes maxL (some .boolean) fr lo vs C M (some (.int x)) C' M' := by
  intro sz
  refine Met.ofW (cc := bytes) (maxL := maxL) (ret := some .boolean) hy rfl ?_
  intro p e s m args below meth c s₁ B hml hv
  obtain ⟨rfl, hsz, hP, hK, hD0⟩ := hv
  have hx := B.exec
  have hb := B.bytes
  have hr := B.returns
  have hts := atoms_spec (ws := Cond.code y bytes maxL (some .boolean) :: TT) B.pre
  have hown : s.vm.findClass y.cls = some m.cls := findClass_of_methodNamed B.named
  have hlocks := B.notSynchronized
  subst hsz
  have hD := hD0.self (sz := s.heap.size)
  have hl := lv_entry vs (n := maxL) hfit
  rw [lg_entry_eq]
  refine body (A := va_A (world G C M) s.heap.size) ⟨hx, hb, hml, hown, fun w h => hts w (List.mem_cons_of_mem _ h)⟩ ⟨hK, hP, hD, va_S.rf, fun q h => Or.inr h⟩ hl ?_
  intro H locs pc ls z hW hz hdg
  subst hz
  exact W.zret hx hb hr (by rcases hb01 with rfl | rfl <;> rfl) (fun t ht hWm => ⟨⟨rfl, by rw [ht]; exact hW.2.1, va_K.moved hWm.alike hW.1, hW.2.2.1⟩, hW.2.2.2.1.F ht⟩) hW.2.2.2.1.2.2 hdg
theorem Ct_v (hy : plainName y.cls = true) (hfit : (lg_sl vs).length ≤ maxL) (body : Bod l G y bytes maxL fr lo vs C M (fun P m s A => ∀ {H : Heap} {locs : List Loc} {pc : Nat} {ls : Array Slot}, Wd G s A s.heap H locs C' M' → decode bytes pc = .ok (.return_, 1) → P (F0 m pc ls []) H locs)) :
    Ct l G y bytes maxL none fr lo vs C M none C' M' := by
  intro sz
  refine Met.ofW (cc := bytes) (maxL := maxL) (ret := none) hy rfl ?_
  intro p e s m args below meth c s₁ B hml hv
  obtain ⟨rfl, hsz, hP, hK, hD0⟩ := hv
  have hx := B.exec
  have hb := B.bytes
  have hr := B.returns
  have hts := atoms_spec (ws := Cond.code y bytes maxL none :: TT) B.pre
  have hown : s.vm.findClass y.cls = some m.cls := findClass_of_methodNamed B.named
  have hlocks := B.notSynchronized
  subst hsz
  have hD := hD0.self (sz := s.heap.size)
  have hl := lv_entry vs (n := maxL) hfit
  rw [lg_entry_eq]
  refine body (A := va_A (world G C M) s.heap.size) ⟨hx, hb, hml, hown, fun w h => hts w (List.mem_cons_of_mem _ h)⟩ ⟨hK, hP, hD, va_S.rf, fun q h => Or.inr h⟩ hl ?_
  intro H locs pc ls hW hdg
  exact W.vret hx hb hr (fun t ht hWm => ⟨⟨rfl, by rw [ht]; exact hW.2.1, va_K.moved hWm.alike hW.1, hW.2.2.1⟩, hW.2.2.2.1.F ht⟩) hW.2.2.2.1.2.2 hdg
theorem Ct_r {nm : String} {v : Value} (hy : plainName y.cls = true) (hfit : (lg_sl vs).length ≤ maxL) (hvr : v = .null ∨ ∃ a, v = .ref a) (body : Bod l G y bytes maxL fr lo vs C M (fun P m s A => ∀ {H : Heap} {locs : List Loc} {pc : Nat} {ls : Array Slot} {z : Value}, Wd G s A s.heap H locs C' M' → z = v → decode bytes pc = .ok (.areturn, 1) → P (F0 m pc ls [z]) H locs)) :
    Ct l G y bytes maxL (some (.object nm)) fr lo vs C M (some v) C' M' := by
  intro sz
  refine Met.ofW (cc := bytes) (maxL := maxL) (ret := some (.object nm)) hy rfl ?_
  intro p e s m args below meth c s₁ B hml hv
  obtain ⟨rfl, hsz, hP, hK, hD0⟩ := hv
  have hx := B.exec
  have hb := B.bytes
  have hr := B.returns
  have hts := atoms_spec (ws := Cond.code y bytes maxL (some (.object nm)) :: TT) B.pre
  have hown : s.vm.findClass y.cls = some m.cls := findClass_of_methodNamed B.named
  have hlocks := B.notSynchronized
  subst hsz
  have hD := hD0.self (sz := s.heap.size)
  have hl := lv_entry vs (n := maxL) hfit
  rw [lg_entry_eq]
  refine body (A := va_A (world G C M) s.heap.size) ⟨hx, hb, hml, hown, fun w h => hts w (List.mem_cons_of_mem _ h)⟩ ⟨hK, hP, hD, va_S.rf, fun q h => Or.inr h⟩ hl ?_
  intro H locs pc ls z hW hz hdg
  subst hz
  exact W.aret hx hb hr (Or.inl ⟨nm, rfl⟩) hvr (fun t ht hWm => ⟨⟨rfl, by rw [ht]; exact hW.2.1, va_K.moved hWm.alike hW.1, hW.2.2.1⟩, hW.2.2.2.1.F ht⟩) hW.2.2.2.1.2.2 hdg
end ZS
