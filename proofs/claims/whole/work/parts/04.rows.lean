/-! ===== the rows of a walk over the world ===== -/
/-- what a caller needs of a method's words -/
def MW (y : MethodName) (bytes : ByteArray) (maxL : Nat) (ret : Option FieldType) (n : Nat) : Prop :=
  Cond.code y bytes maxL ret ∈ TT ∧ Cond.initialized y.cls ∈ TT ∧ (y.cls ≠ "java/lang/invoke/MethodHandle" ∧ y.cls ≠ "java/lang/invoke/VarHandle") ∧ (parseMethodDescriptor y.desc).map (fun d => d.parameters.length) = some n
def MWv (y : MethodName) : Prop := Cond.instanceMethod y ∈ TT ∧ Cond.selects y.cls y y ∈ TT
theorem code_pay {y : MethodName} {bytes : ByteArray} {maxL : Nat} {ret : Option FieldType} {args : Array Value} {s : State} (hts : ∀ w ∈ TT, w.before args s = true) (hc : Cond.code y bytes maxL ret ∈ TT) : ∀ w ∈ Cond.code y bytes maxL ret :: TT, ∀ (a' : Array Value) (U : State), s.WarmedH U.vm → w.before a' U = true := by
  intro w hw
  rcases List.mem_cons.mp hw with rfl | hw
  · exact pay_in hts TT_good _ hc
  · exact pay_in hts TT_good _ hw
section ZR
variable {p : Program} {l : Launch} {e : Env} {R : Room} {s : State} {m : MethodId} {args : Array Value} {below : List Frame} {meth : Method} {c : Code} {H : Heap} {locs : List Loc} {cells slots : Nat} {Q : State → Prop}
variable {cc : ByteArray} {nL : Nat} {own : String} {pc : Nat} {ls : Array Slot} {rest st0 : List Value} {G : GG} {A : Nat → Prop} {H0 : Heap} {C : CS} {M : MS}
theorem z_get (hC : CallFix p m c cc nL s args TT own) (hW : Wd G s A H0 H locs C M) {f i ci index N : Nat} {fs : List Value} {Cn : String} {T : u_T} (hi : (f, i) ∈ LL (zn G)) (he : enc G C M f i = .inr (ci, fs)) (hc : vwCl[ci]? = some (Cn, T, N)) (hin : ∀ w ∈ u_ws Cn T N, w ∈ TT) (k : Nat) (hk : k < N) (hl : Cond.fieldLink own index (T k).1 (T k).2.1 (T k).2.2.1 ∈ TT) {v : Value} (hv : fs[k]? = some v) (hdg : decode cc pc = .ok (.getfield index, 3))
    (kk : W p l e R s m args below meth c H locs cells slots Q (F0 m (pc + 3) ls (v :: rest))) : W p l e R s m args below meth c H locs cells slots Q (F0 m pc ls (.ref (zad G f i) :: rest)) := by
  obtain ⟨q0, hq⟩ := w_get (G := G) (M := M) hi
  rw [he] at hq
  exact va_get hC.1 hC.2.1 hC.2.2.2.2 hin hC.2.2.2.1 hW.1 hW.2.1 q0 hq hc k hk (hC.2.2.2.2 _ hl) (fun _ h => h) hv hdg kk
theorem z_put (hC : CallFix p m c cc nL s args TT own) (hW : Wd G s A H0 H locs C M) {f i ci index N : Nat} {fs : List Value} {Cn : String} {T : u_T} (hi : (f, i) ∈ LL (zn G)) (he : enc G C M f i = .inr (ci, fs)) (hc : vwCl[ci]? = some (Cn, T, N)) (hin : ∀ w ∈ u_ws Cn T N, w ∈ TT) (ty0 : Nat → FieldType) (hty : ∀ k, k < N → parseFieldDescriptor (T k).2.2.1 = some (ty0 k)) (hnm : ∀ a, a < N → ∀ b, b < N → a ≠ b → (T a).2.1 ≠ (T b).2.1) (k : Nat) (hk : k < N) (hl : Cond.fieldLink own index (T k).1 (T k).2.1 (T k).2.2.1 ∈ TT) (hfin : (T k).2.2.2 = false) {ty : FieldType} {v : Value} (hd : parseFieldDescriptor (T k).2.2.1 = some ty) (hn : narrow ty v = v) (hfit : fits ty v = true) (hlen : k < fs.length)
    {C' : CS} {M' : MS} (he' : enc G C' M' f i = .inr (ci, fs.set k v)) (ho : ∀ f' i' : Nat, (f', i') ≠ (f, i) → enc G C' M' f' i' = enc G C M f' i') (hdg : decode cc pc = .ok (.putfield index, 3))
    (kk : ∀ (H1 : Heap) (locs1 : List Loc), Wd G s A H0 H1 locs1 C' M' → W p l e R s m args below meth c H1 locs1 cells slots Q (F0 m (pc + 3) ls rest)) : W p l e R s m args below meth c H locs cells slots Q (F0 m pc ls (v :: .ref (zad G f i) :: rest)) := by
  obtain ⟨q0, hq⟩ := w_get (G := G) (M := M) hi
  have hs := w_set hW.2.2.1 hq hi he' ho
  rw [he] at hq
  refine va_put hC.1 hC.2.1 hC.2.2.2.2 hin ty0 hty hnm hC.2.2.2.1 hW.1 hW.2.1 hW.2.2.1 hW.2.2.2.1 q0 hq hc k hk (hC.2.2.2.2 _ hl) (fun _ h => h) hfin hd hn hfit hlen hdg (fun H1 locs1 hP hD hS => ?_)
  rw [hs] at hP hD
  exact kk H1 locs1 ⟨hW.1, hP, hD, hS, hW.2.2.2.2⟩
theorem z_iald (hC : CallFix p m c cc nL s args TT own) (hW : Wd G s A H0 H locs C M) {f i n : Nat} {g : Nat → Int32} (hi : (f, i) ∈ LL (zn G)) (he : enc G C M f i = .inl (gI G, n, .inl g)) {x : Int32} (hin : vp_in x n) (hdg : decode cc pc = .ok (.iaload, 1))
    (kk : W p l e R s m args below meth c H locs cells slots Q (F0 m (pc + 1) ls (.int (g x.toNatClampNeg) :: rest))) : W p l e R s m args below meth c H locs cells slots Q (F0 m pc ls (.int x :: .ref (zad G f i) :: rest)) := by
  obtain ⟨q0, hq⟩ := w_get (G := G) (M := M) hi
  rw [he] at hq
  exact va_iald hC.1 hC.2.1 hW.1 hW.2.1 q0 0 hq rfl hin hdg kk
theorem z_zald (hC : CallFix p m c cc nL s args TT own) (hW : Wd G s A H0 H locs C M) {f i n : Nat} {g : Nat → Int32} (hi : (f, i) ∈ LL (zn G)) (he : enc G C M f i = .inl (gZ G, n, .inl g)) {x : Int32} (hin : vp_in x n) (hdg : decode cc pc = .ok (.baload, 1))
    (kk : W p l e R s m args below meth c H locs cells slots Q (F0 m (pc + 1) ls (.int (g x.toNatClampNeg) :: rest))) : W p l e R s m args below meth c H locs cells slots Q (F0 m pc ls (.int x :: .ref (zad G f i) :: rest)) := by
  obtain ⟨q0, hq⟩ := w_get (G := G) (M := M) hi
  rw [he] at hq
  exact va_zald hC.1 hC.2.1 hW.1 hW.2.1 q0 1 hq rfl hin hdg kk
theorem z_iast (hC : CallFix p m c cc nL s args TT own) (hW : Wd G s A H0 H locs C M) {f i n : Nat} {g : Nat → Int32} (hi : (f, i) ∈ LL (zn G)) (he : enc G C M f i = .inl (gI G, n, .inl g)) {x v : Int32} (hin : vp_in x n)
    {C' : CS} {M' : MS} (he' : enc G C' M' f i = .inl (gI G, n, .inl (upd g x.toNatClampNeg v))) (ho : ∀ f' i' : Nat, (f', i') ≠ (f, i) → enc G C' M' f' i' = enc G C M f' i') (hdg : decode cc pc = .ok (.iastore, 1))
    (kk : ∀ (H1 : Heap) (locs1 : List Loc), Wd G s A H0 H1 locs1 C' M' → W p l e R s m args below meth c H1 locs1 cells slots Q (F0 m (pc + 1) ls rest)) : W p l e R s m args below meth c H locs cells slots Q (F0 m pc ls (.int v :: .int x :: .ref (zad G f i) :: rest)) := by
  obtain ⟨q0, hq⟩ := w_get (G := G) (M := M) hi
  have hs := w_set hW.2.2.1 hq hi he' ho
  rw [he] at hq
  refine va_iast hC.1 hC.2.1 hW.1 hW.2.1 hW.2.2.1 hW.2.2.2.1 q0 0 hq rfl hin hdg (fun H1 locs1 hP hD hS => ?_)
  rw [hs] at hP hD
  exact kk H1 locs1 ⟨hW.1, hP, hD, hS, hW.2.2.2.2⟩
theorem z_zast (hC : CallFix p m c cc nL s args TT own) (hW : Wd G s A H0 H locs C M) {f i n : Nat} {g : Nat → Int32} (hi : (f, i) ∈ LL (zn G)) (he : enc G C M f i = .inl (gZ G, n, .inl g)) {x v : Int32} (hin : vp_in x n) (hv : v = 0 ∨ v = 1)
    {C' : CS} {M' : MS} (he' : enc G C' M' f i = .inl (gZ G, n, .inl (upd g x.toNatClampNeg v))) (ho : ∀ f' i' : Nat, (f', i') ≠ (f, i) → enc G C' M' f' i' = enc G C M f' i') (hdg : decode cc pc = .ok (.bastore, 1))
    (kk : ∀ (H1 : Heap) (locs1 : List Loc), Wd G s A H0 H1 locs1 C' M' → W p l e R s m args below meth c H1 locs1 cells slots Q (F0 m (pc + 1) ls rest)) : W p l e R s m args below meth c H locs cells slots Q (F0 m pc ls (.int v :: .int x :: .ref (zad G f i) :: rest)) := by
  obtain ⟨q0, hq⟩ := w_get (G := G) (M := M) hi
  have hs := w_set hW.2.2.1 hq hi he' ho
  rw [he] at hq
  have hnar : vp_nar .boolean v = v := by rcases hv with rfl | rfl <;> decide
  refine va_zast hC.1 hC.2.1 hW.1 hW.2.1 hW.2.2.1 hW.2.2.2.1 q0 1 hq rfl hin hdg (fun H1 locs1 hP hD hS => ?_)
  rw [hnar, hs] at hP hD
  exact kk H1 locs1 ⟨hW.1, hP, hD, hS, hW.2.2.2.2⟩
/-! fields of the class's and the reference's objects -/
theorem g0 (hC : CallFix p m c cc nL s args TT own) (hW : Wd G s A H0 H locs C M) {k index : Nat} (hk : k < 8) (hl : Cond.fieldLink own index (TX4 k).1 (TX4 k).2.1 (TX4 k).2.2.1 ∈ TT) {v : Value} (hv : (fsV G (cF C 0 0) (zn G))[k]? = some v) (hdg : decode cc pc = .ok (.getfield index, 3))
    (kk : W p l e R s m args below meth c H locs cells slots Q (F0 m (pc + 3) ls (v :: rest))) : W p l e R s m args below meth c H locs cells slots Q (F0 m pc ls (.ref (zad G 0 0) :: rest)) :=
  z_get hC hW LL_0 rfl rfl uW4 k hk hl hv hdg kk
theorem g1 (hC : CallFix p m c cc nL s args TT own) (hW : Wd G s A H0 H locs C M) {k index : Nat} (hk : k < 3) (hl : Cond.fieldLink own index (TX2 k).1 (TX2 k).2.1 (TX2 k).2.2.1 ∈ TT) {v : Value} (hv : (fsE (cF C 1 0))[k]? = some v) (hdg : decode cc pc = .ok (.getfield index, 3))
    (kk : W p l e R s m args below meth c H locs cells slots Q (F0 m (pc + 3) ls (v :: rest))) : W p l e R s m args below meth c H locs cells slots Q (F0 m pc ls (.ref (zad G 1 0) :: rest)) :=
  z_get hC hW LL_1 rfl rfl uW2 k hk hl hv hdg kk
theorem g3 (hC : CallFix p m c cc nL s args TT own) (hW : Wd G s A H0 H locs C M) {d k index : Nat} (hd : d < 3) (hk : k < 9) (hl : Cond.fieldLink own index (TX1 k).1 (TX1 k).2.1 (TX1 k).2.2.1 ∈ TT) {v : Value} (hv : (fsD G (cF C 3 d) (cN C 3 d) (cM C d) d)[k]? = some v) (hdg : decode cc pc = .ok (.getfield index, 3))
    (kk : W p l e R s m args below meth c H locs cells slots Q (F0 m (pc + 3) ls (v :: rest))) : W p l e R s m args below meth c H locs cells slots Q (F0 m pc ls (.ref (zad G 3 d) :: rest)) :=
  z_get hC hW (LL_3 hd) rfl rfl uW1 k hk hl hv hdg kk
theorem g5 (hC : CallFix p m c cc nL s args TT own) (hW : Wd G s A H0 H locs C M) {b k index : Nat} (hb : isB (zn G) b) (hk : k < 4) (hl : Cond.fieldLink own index (TX0 k).1 (TX0 k).2.1 (TX0 k).2.2.1 ∈ TT) {v : Value} (hv : (fsB G (cN C 5 b) b)[k]? = some v) (hdg : decode cc pc = .ok (.getfield index, 3))
    (kk : W p l e R s m args below meth c H locs cells slots Q (F0 m (pc + 3) ls (v :: rest))) : W p l e R s m args below meth c H locs cells slots Q (F0 m pc ls (.ref (zad G 5 b) :: rest)) :=
  z_get hC hW (LL_5 hb) rfl rfl uW0 k hk hl hv hdg kk
theorem g9 (hC : CallFix p m c cc nL s args TT own) (hW : Wd G s A H0 H locs C M) {t k index : Nat} (ht : t < zn G) (hk : k < 6) (hl : Cond.fieldLink own index (TX3 k).1 (TX3 k).2.1 (TX3 k).2.2.1 ∈ TT) {v : Value} (hv : (fsT G (cF C 9 t) (cN C 9 t) t)[k]? = some v) (hdg : decode cc pc = .ok (.getfield index, 3))
    (kk : W p l e R s m args below meth c H locs cells slots Q (F0 m (pc + 3) ls (v :: rest))) : W p l e R s m args below meth c H locs cells slots Q (F0 m pc ls (.ref (zad G 9 t) :: rest)) :=
  z_get hC hW (LL_9 ht) rfl rfl uW3 k hk hl hv hdg kk
theorem g12 (hC : CallFix p m c cc nL s args TT own) (hW : Wd G s A H0 H locs C M) {k index : Nat} (hk : k < 31) (hl : Cond.fieldLink own index (TX5 k).1 (TX5 k).2.1 (TX5 k).2.2.1 ∈ TT) {v : Value} (hv : (fsM G (mF M))[k]? = some v) (hdg : decode cc pc = .ok (.getfield index, 3))
    (kk : W p l e R s m args below meth c H locs cells slots Q (F0 m (pc + 3) ls (v :: rest))) : W p l e R s m args below meth c H locs cells slots Q (F0 m pc ls (.ref (zad G 12 0) :: rest)) :=
  z_get hC hW LL_12 rfl rfl uW5 k hk hl hv hdg kk
theorem p0 (hC : CallFix p m c cc nL s args TT own) (hW : Wd G s A H0 H locs C M) {k index : Nat} {v : Int32} (hk : k = 5 ∨ k = 6 ∨ k = 7) (hl : Cond.fieldLink own index (TX4 k).1 (TX4 k).2.1 (TX4 k).2.2.1 ∈ TT) (hdg : decode cc pc = .ok (.putfield index, 3))
    (kk : ∀ (C1 : CS), C1 = sF C 0 0 k v → ∀ (H1 : Heap) (locs1 : List Loc), Wd G s A H0 H1 locs1 C1 M → W p l e R s m args below meth c H1 locs1 cells slots Q (F0 m (pc + 3) ls rest)) : W p l e R s m args below meth c H locs cells slots Q (F0 m pc ls (.int v :: .ref (zad G 0 0) :: rest)) := by
  rcases hk with rfl | rfl | rfl <;> exact z_put hC hW LL_0 rfl rfl uW4 tyX4 tyX4_ok nmX4 _ (by decide) hl rfl (ty := .int) (by decide +kernel) rfl rfl (Nat.le_of_ble_eq_true rfl) (C' := sF C 0 0 _ v) rfl (fun f' i' h => enc_sF h) hdg (kk _ rfl)
theorem p1 (hC : CallFix p m c cc nL s args TT own) (hW : Wd G s A H0 H locs C M) {k index : Nat} {v : Int32} (hk : k = 0 ∨ k = 1 ∨ k = 2) (hl : Cond.fieldLink own index (TX2 k).1 (TX2 k).2.1 (TX2 k).2.2.1 ∈ TT) (hdg : decode cc pc = .ok (.putfield index, 3))
    (kk : ∀ (C1 : CS), C1 = sF C 1 0 k v → ∀ (H1 : Heap) (locs1 : List Loc), Wd G s A H0 H1 locs1 C1 M → W p l e R s m args below meth c H1 locs1 cells slots Q (F0 m (pc + 3) ls rest)) : W p l e R s m args below meth c H locs cells slots Q (F0 m pc ls (.int v :: .ref (zad G 1 0) :: rest)) := by
  rcases hk with rfl | rfl | rfl <;> exact z_put hC hW LL_1 rfl rfl uW2 tyX2 tyX2_ok nmX2 _ (by decide) hl rfl (ty := .int) (by decide +kernel) rfl rfl (Nat.le_of_ble_eq_true rfl) (C' := sF C 1 0 _ v) rfl (fun f' i' h => enc_sF h) hdg (kk _ rfl)
theorem fsD_F (G : GG) (C : CS) (d k : Nat) (v : Int32) (hk : k = 2 ∨ k = 3 ∨ k = 4 ∨ k = 5) : fsD G (cF (sF C 3 d k v) 3 d) (cN (sF C 3 d k v) 3 d) (cM (sF C 3 d k v) d) d = (fsD G (cF C 3 d) (cN C 3 d) (cM C d) d).set k (.int v) := by
  rcases hk with rfl | rfl | rfl | rfl <;> simp [fsD, cF_sF, cN_sF, cM_sF]
theorem p3F (hC : CallFix p m c cc nL s args TT own) (hW : Wd G s A H0 H locs C M) {d k index : Nat} {v : Int32} (hd : d < 3) (hk : k = 2 ∨ k = 3 ∨ k = 5) (hl : Cond.fieldLink own index (TX1 k).1 (TX1 k).2.1 (TX1 k).2.2.1 ∈ TT) (hdg : decode cc pc = .ok (.putfield index, 3))
    (kk : ∀ (C1 : CS), C1 = sF C 3 d k v → ∀ (H1 : Heap) (locs1 : List Loc), Wd G s A H0 H1 locs1 C1 M → W p l e R s m args below meth c H1 locs1 cells slots Q (F0 m (pc + 3) ls rest)) : W p l e R s m args below meth c H locs cells slots Q (F0 m pc ls (.int v :: .ref (zad G 3 d) :: rest)) := by
  rcases hk with rfl | rfl | rfl
  · exact z_put hC hW (LL_3 hd) rfl rfl uW1 tyX1 tyX1_ok nmX1 2 (by decide) hl rfl (ty := .int) (by decide +kernel) rfl rfl (Nat.le_of_ble_eq_true rfl) (C' := sF C 3 d 2 v) (congrArg (fun z => (Sum.inr (1, z) : va_E)) (fsD_F G C d 2 v (by decide))) (fun f' i' h => enc_sF h) hdg (kk _ rfl)
  · exact z_put hC hW (LL_3 hd) rfl rfl uW1 tyX1 tyX1_ok nmX1 3 (by decide) hl rfl (ty := .int) (by decide +kernel) rfl rfl (Nat.le_of_ble_eq_true rfl) (C' := sF C 3 d 3 v) (congrArg (fun z => (Sum.inr (1, z) : va_E)) (fsD_F G C d 3 v (by decide))) (fun f' i' h => enc_sF h) hdg (kk _ rfl)
  · exact z_put hC hW (LL_3 hd) rfl rfl uW1 tyX1 tyX1_ok nmX1 5 (by decide) hl rfl (ty := .int) (by decide +kernel) rfl rfl (Nat.le_of_ble_eq_true rfl) (C' := sF C 3 d 5 v) (congrArg (fun z => (Sum.inr (1, z) : va_E)) (fsD_F G C d 5 v (by decide))) (fun f' i' h => enc_sF h) hdg (kk _ rfl)
theorem p3J (hC : CallFix p m c cc nL s args TT own) (hW : Wd G s A H0 H locs C M) {d index : Nat} {v : Int32} (hd : d < 3) (hv : v = 0 ∨ v = 1) (hl : Cond.fieldLink own index (TX1 4).1 (TX1 4).2.1 (TX1 4).2.2.1 ∈ TT) (hdg : decode cc pc = .ok (.putfield index, 3))
    (kk : ∀ (C1 : CS), C1 = sF C 3 d 4 v → ∀ (H1 : Heap) (locs1 : List Loc), Wd G s A H0 H1 locs1 C1 M → W p l e R s m args below meth c H1 locs1 cells slots Q (F0 m (pc + 3) ls rest)) : W p l e R s m args below meth c H locs cells slots Q (F0 m pc ls (.int v :: .ref (zad G 3 d) :: rest)) := by
  exact z_put hC hW (LL_3 hd) rfl rfl uW1 tyX1 tyX1_ok nmX1 _ (by decide) hl rfl (ty := .boolean) (by decide +kernel) (by rcases hv with rfl | rfl <;> rfl) (by rcases hv with rfl | rfl <;> rfl) (Nat.le_of_ble_eq_true rfl) (C' := sF C 3 d 4 v) (congrArg (fun z => (Sum.inr (1, z) : va_E)) (fsD_F G C d 4 v (by decide))) (fun f' i' h => enc_sF h) hdg (kk _ rfl)
theorem fsD_N (G : GG) (C : CS) (d k v : Nat) (hk : k = 7 ∨ k = 8) : fsD G (cF (sN C 3 d k v) 3 d) (cN (sN C 3 d k v) 3 d) (cM (sN C 3 d k v) d) d = (fsD G (cF C 3 d) (cN C 3 d) (cM C d) d).set k (.int (nI v)) := by
  rcases hk with rfl | rfl <;> simp [fsD, cN_sN, cF_sN, cM_sN]
theorem p3N (hC : CallFix p m c cc nL s args TT own) (hW : Wd G s A H0 H locs C M) {d k index v : Nat} {x : Int32} (hd : d < 3) (hk : k = 7 ∨ k = 8) (hx : x = nI v) (hl : Cond.fieldLink own index (TX1 k).1 (TX1 k).2.1 (TX1 k).2.2.1 ∈ TT) (hdg : decode cc pc = .ok (.putfield index, 3))
    (kk : ∀ (C1 : CS), C1 = sN C 3 d k v → ∀ (H1 : Heap) (locs1 : List Loc), Wd G s A H0 H1 locs1 C1 M → W p l e R s m args below meth c H1 locs1 cells slots Q (F0 m (pc + 3) ls rest)) : W p l e R s m args below meth c H locs cells slots Q (F0 m pc ls (.int x :: .ref (zad G 3 d) :: rest)) := by
  subst hx
  rcases hk with rfl | rfl
  · exact z_put hC hW (LL_3 hd) rfl rfl uW1 tyX1 tyX1_ok nmX1 7 (by decide) hl rfl (ty := .int) (by decide +kernel) rfl rfl (Nat.le_of_ble_eq_true rfl) (C' := sN C 3 d 7 v) (congrArg (fun z => (Sum.inr (1, z) : va_E)) (fsD_N G C d 7 v (by decide))) (fun f' i' h => enc_sN h) hdg (kk _ rfl)
  · exact z_put hC hW (LL_3 hd) rfl rfl uW1 tyX1 tyX1_ok nmX1 8 (by decide) hl rfl (ty := .int) (by decide +kernel) rfl rfl (Nat.le_of_ble_eq_true rfl) (C' := sN C 3 d 8 v) (congrArg (fun z => (Sum.inr (1, z) : va_E)) (fsD_N G C d 8 v (by decide))) (fun f' i' h => enc_sN h) hdg (kk _ rfl)
theorem fsD_M (G : GG) (C : CS) (d : Nat) (v : Option Nat) : fsD G (cF (sM C d v) 3 d) (cN (sM C d v) 3 d) (cM (sM C d v) d) d = (fsD G (cF C 3 d) (cN C 3 d) (cM C d) d).set 6 (va_rf (v.map (zad G 9))) := by
  simp [fsD, cM_sM, cF_sM, cN_sM]
theorem p3M (hC : CallFix p m c cc nL s args TT own) (hW : Wd G s A H0 H locs C M) {d index t : Nat} (hd : d < 3) (hl : Cond.fieldLink own index (TX1 6).1 (TX1 6).2.1 (TX1 6).2.2.1 ∈ TT) (hdg : decode cc pc = .ok (.putfield index, 3))
    (kk : ∀ (C1 : CS), C1 = sM C d (some t) → ∀ (H1 : Heap) (locs1 : List Loc), Wd G s A H0 H1 locs1 C1 M → W p l e R s m args below meth c H1 locs1 cells slots Q (F0 m (pc + 3) ls rest)) : W p l e R s m args below meth c H locs cells slots Q (F0 m pc ls (.ref (zad G 9 t) :: .ref (zad G 3 d) :: rest)) := by
  exact z_put hC hW (LL_3 hd) rfl rfl uW1 tyX1 tyX1_ok nmX1 6 (by decide) hl rfl (ty := .object RX3) (by decide +kernel) rfl rfl (Nat.le_of_ble_eq_true rfl) (C' := sM C d (some t)) (congrArg (fun z => (Sum.inr (1, z) : va_E)) (fsD_M G C d (some t))) (fun f' i' h => enc_sM h) hdg (kk _ rfl)
theorem p3Mn (hC : CallFix p m c cc nL s args TT own) (hW : Wd G s A H0 H locs C M) {d index : Nat} (hd : d < 3) (hl : Cond.fieldLink own index (TX1 6).1 (TX1 6).2.1 (TX1 6).2.2.1 ∈ TT) (hdg : decode cc pc = .ok (.putfield index, 3))
    (kk : ∀ (C1 : CS), C1 = sM C d none → ∀ (H1 : Heap) (locs1 : List Loc), Wd G s A H0 H1 locs1 C1 M → W p l e R s m args below meth c H1 locs1 cells slots Q (F0 m (pc + 3) ls rest)) : W p l e R s m args below meth c H locs cells slots Q (F0 m pc ls (.null :: .ref (zad G 3 d) :: rest)) := by
  exact z_put hC hW (LL_3 hd) rfl rfl uW1 tyX1 tyX1_ok nmX1 6 (by decide) hl rfl (ty := .object RX3) (by decide +kernel) rfl rfl (Nat.le_of_ble_eq_true rfl) (C' := sM C d none) (congrArg (fun z => (Sum.inr (1, z) : va_E)) (fsD_M G C d none)) (fun f' i' h => enc_sM h) hdg (kk _ rfl)
theorem p5 (hC : CallFix p m c cc nL s args TT own) (hW : Wd G s A H0 H locs C M) {b index v : Nat} {x : Int32} (hb : isB (zn G) b) (hx : x = nI v) (hl : Cond.fieldLink own index (TX0 3).1 (TX0 3).2.1 (TX0 3).2.2.1 ∈ TT) (hdg : decode cc pc = .ok (.putfield index, 3))
    (kk : ∀ (C1 : CS), C1 = sN C 5 b 3 v → ∀ (H1 : Heap) (locs1 : List Loc), Wd G s A H0 H1 locs1 C1 M → W p l e R s m args below meth c H1 locs1 cells slots Q (F0 m (pc + 3) ls rest)) : W p l e R s m args below meth c H locs cells slots Q (F0 m pc ls (.int x :: .ref (zad G 5 b) :: rest)) := by
  subst hx
  exact z_put hC hW (LL_5 hb) rfl rfl uW0 tyX0 tyX0_ok nmX0 _ (by decide) hl rfl (ty := .int) (by decide +kernel) rfl rfl (Nat.le_of_ble_eq_true rfl) (C' := sN C 5 b 3 v) (congrArg (fun z => (Sum.inr (0, z) : va_E)) (by simp [fsB, cN_sN])) (fun f' i' h => enc_sN h) hdg (kk _ rfl)
theorem p9 (hC : CallFix p m c cc nL s args TT own) (hW : Wd G s A H0 H locs C M) {t k index : Nat} {v : Int32} (ht : t < zn G) (hk : k = 4 ∨ k = 5) (hl : Cond.fieldLink own index (TX3 k).1 (TX3 k).2.1 (TX3 k).2.2.1 ∈ TT) (hdg : decode cc pc = .ok (.putfield index, 3))
    (kk : ∀ (C1 : CS), C1 = sF C 9 t k v → ∀ (H1 : Heap) (locs1 : List Loc), Wd G s A H0 H1 locs1 C1 M → W p l e R s m args below meth c H1 locs1 cells slots Q (F0 m (pc + 3) ls rest)) : W p l e R s m args below meth c H locs cells slots Q (F0 m pc ls (.int v :: .ref (zad G 9 t) :: rest)) := by
  rcases hk with rfl | rfl <;> exact z_put hC hW (LL_9 ht) rfl rfl uW3 tyX3 tyX3_ok nmX3 _ (by decide) hl rfl (ty := .int) (by decide +kernel) rfl rfl (Nat.le_of_ble_eq_true rfl) (C' := sF C 9 t _ v) (congrArg (fun z => (Sum.inr (3, z) : va_E)) (by simp [fsT, cF_sF, cN_sF])) (fun f' i' h => enc_sF h) hdg (kk _ rfl)
theorem p12 (hC : CallFix p m c cc nL s args TT own) (hW : Wd G s A H0 H locs C M) {k index : Nat} {v : Int32} (hk : k = 0 ∨ k = 20 ∨ k = 21 ∨ k = 22 ∨ k = 23 ∨ k = 24 ∨ k = 25 ∨ k = 26 ∨ k = 27 ∨ k = 28 ∨ k = 29 ∨ k = 30) (hl : Cond.fieldLink own index (TX5 k).1 (TX5 k).2.1 (TX5 k).2.2.1 ∈ TT) (hdg : decode cc pc = .ok (.putfield index, 3))
    (kk : ∀ (M1 : MS), M1 = smF M k v → ∀ (H1 : Heap) (locs1 : List Loc), Wd G s A H0 H1 locs1 C M1 → W p l e R s m args below meth c H1 locs1 cells slots Q (F0 m (pc + 3) ls rest)) : W p l e R s m args below meth c H locs cells slots Q (F0 m pc ls (.int v :: .ref (zad G 12 0) :: rest)) := by
  rcases hk with rfl | rfl | rfl | rfl | rfl | rfl | rfl | rfl | rfl | rfl | rfl | rfl <;> exact z_put hC hW LL_12 rfl rfl uW5 tyX5 tyX5_ok nmX5 _ (by decide) hl rfl (ty := .int) (by decide +kernel) rfl rfl (Nat.le_of_ble_eq_true rfl) (C' := C) (M' := smF M _ v) rfl (fun f' i' h => enc_smF h) hdg (kk _ rfl)
/-! rows of numbers -/
theorem a6 (hC : CallFix p m c cc nL s args TT own) (hW : Wd G s A H0 H locs C M) {b j : Nat} {x : Int32} (hb : isB (zn G) b) (hx : x = nI j) (hj : j < cap b) (hdg : decode cc pc = .ok (.iaload, 1))
    (kk : W p l e R s m args below meth c H locs cells slots Q (F0 m (pc + 1) ls (.int (cB C 6 b j) :: rest))) : W p l e R s m args below meth c H locs cells slots Q (F0 m pc ls (.int x :: .ref (zad G 6 b) :: rest)) := by
  subst hx
  have hc : cap b < 2 ^ 31 := by unfold cap; split <;> decide
  refine z_iald hC hW (LL_6 hb) rfl (vp_in_nI hj hc) hdg ?_
  rw [nI_clamp (by omega)]
  exact kk
theorem a7 (hC : CallFix p m c cc nL s args TT own) (hW : Wd G s A H0 H locs C M) {b j : Nat} {x : Int32} (hb : isB (zn G) b) (hx : x = nI j) (hj : j < cap b) (hdg : decode cc pc = .ok (.iaload, 1))
    (kk : W p l e R s m args below meth c H locs cells slots Q (F0 m (pc + 1) ls (.int (cB C 7 b j) :: rest))) : W p l e R s m args below meth c H locs cells slots Q (F0 m pc ls (.int x :: .ref (zad G 7 b) :: rest)) := by
  subst hx
  have hc : cap b < 2 ^ 31 := by unfold cap; split <;> decide
  refine z_iald hC hW (LL_7 hb) rfl (vp_in_nI hj hc) hdg ?_
  rw [nI_clamp (by omega)]
  exact kk
theorem a8 (hC : CallFix p m c cc nL s args TT own) (hW : Wd G s A H0 H locs C M) {b j : Nat} {x : Int32} (hb : isB (zn G) b) (hx : x = nI j) (hj : j < cap b) (hdg : decode cc pc = .ok (.iaload, 1))
    (kk : W p l e R s m args below meth c H locs cells slots Q (F0 m (pc + 1) ls (.int (cB C 8 b j) :: rest))) : W p l e R s m args below meth c H locs cells slots Q (F0 m pc ls (.int x :: .ref (zad G 8 b) :: rest)) := by
  subst hx
  have hc : cap b < 2 ^ 31 := by unfold cap; split <;> decide
  refine z_iald hC hW (LL_8 hb) rfl (vp_in_nI hj hc) hdg ?_
  rw [nI_clamp (by omega)]
  exact kk
theorem a10 (hC : CallFix p m c cc nL s args TT own) (hW : Wd G s A H0 H locs C M) {t j : Nat} {x : Int32} (ht : t < zn G) (hx : x = nI j) (hj : j < 100) (hdg : decode cc pc = .ok (.baload, 1))
    (kk : W p l e R s m args below meth c H locs cells slots Q (F0 m (pc + 1) ls (.int (cB C 10 t j) :: rest))) : W p l e R s m args below meth c H locs cells slots Q (F0 m pc ls (.int x :: .ref (zad G 10 t) :: rest)) := by
  subst hx
  refine z_zald hC hW (LL_10 ht) rfl (vp_in_nI hj (by decide)) hdg ?_
  rw [nI_clamp (by omega)]
  exact kk
theorem a11 (hC : CallFix p m c cc nL s args TT own) (hW : Wd G s A H0 H locs C M) {t j : Nat} {x : Int32} (ht : t < zn G) (hx : x = nI j) (hj : j < 100) (hdg : decode cc pc = .ok (.baload, 1))
    (kk : W p l e R s m args below meth c H locs cells slots Q (F0 m (pc + 1) ls (.int (cB C 11 t j) :: rest))) : W p l e R s m args below meth c H locs cells slots Q (F0 m pc ls (.int x :: .ref (zad G 11 t) :: rest)) := by
  subst hx
  refine z_zald hC hW (LL_11 ht) rfl (vp_in_nI hj (by decide)) hdg ?_
  rw [nI_clamp (by omega)]
  exact kk
theorem cB_upd {C : CS} {f b j : Nat} {v : Int32} : cB (sB C f b j v) f b = upd (cB C f b) j v := by
  funext k
  unfold upd
  rw [cB_sB]
  by_cases h : k = j <;> simp [h]
theorem s678 (hC : CallFix p m c cc nL s args TT own) (hW : Wd G s A H0 H locs C M) {f b j : Nat} {x v : Int32} (hf : f = 6 ∨ f = 7 ∨ f = 8) (hb : isB (zn G) b) (hx : x = nI j) (hj : j < cap b) (hdg : decode cc pc = .ok (.iastore, 1))
    (kk : ∀ (C1 : CS), C1 = sB C f b j v → ∀ (H1 : Heap) (locs1 : List Loc), Wd G s A H0 H1 locs1 C1 M → W p l e R s m args below meth c H1 locs1 cells slots Q (F0 m (pc + 1) ls rest)) : W p l e R s m args below meth c H locs cells slots Q (F0 m pc ls (.int v :: .int x :: .ref (zad G f b) :: rest)) := by
  subst hx
  have hc : cap b < 2 ^ 31 := by unfold cap; split <;> decide
  have hv : (nI j).toNatClampNeg = j := nI_clamp (by omega)
  rcases hf with rfl | rfl | rfl
  · exact z_iast hC hW (LL_6 hb) rfl (vp_in_nI hj hc) (C' := sB C 6 b j v) (by rw [hv]; exact congrArg (fun z => (Sum.inl (gI G, cap b, Sum.inl z) : va_E)) cB_upd) (fun f' i' h => enc_sB h) hdg (kk _ rfl)
  · exact z_iast hC hW (LL_7 hb) rfl (vp_in_nI hj hc) (C' := sB C 7 b j v) (by rw [hv]; exact congrArg (fun z => (Sum.inl (gI G, cap b, Sum.inl z) : va_E)) cB_upd) (fun f' i' h => enc_sB h) hdg (kk _ rfl)
  · exact z_iast hC hW (LL_8 hb) rfl (vp_in_nI hj hc) (C' := sB C 8 b j v) (by rw [hv]; exact congrArg (fun z => (Sum.inl (gI G, cap b, Sum.inl z) : va_E)) cB_upd) (fun f' i' h => enc_sB h) hdg (kk _ rfl)
theorem s1011 (hC : CallFix p m c cc nL s args TT own) (hW : Wd G s A H0 H locs C M) {f t j : Nat} {x v : Int32} (hf : f = 10 ∨ f = 11) (ht : t < zn G) (hx : x = nI j) (hj : j < 100) (hv : v = 0 ∨ v = 1) (hdg : decode cc pc = .ok (.bastore, 1))
    (kk : ∀ (C1 : CS), C1 = sB C f t j v → ∀ (H1 : Heap) (locs1 : List Loc), Wd G s A H0 H1 locs1 C1 M → W p l e R s m args below meth c H1 locs1 cells slots Q (F0 m (pc + 1) ls rest)) : W p l e R s m args below meth c H locs cells slots Q (F0 m pc ls (.int v :: .int x :: .ref (zad G f t) :: rest)) := by
  subst hx
  have hx : (nI j).toNatClampNeg = j := nI_clamp (by omega)
  rcases hf with rfl | rfl
  · exact z_zast hC hW (LL_10 ht) rfl (vp_in_nI hj (by decide)) hv (C' := sB C 10 t j v) (by rw [hx]; exact congrArg (fun z => (Sum.inl (gZ G, 100, Sum.inl z) : va_E)) cB_upd) (fun f' i' h => enc_sB h) hdg (kk _ rfl)
  · exact z_zast hC hW (LL_11 ht) rfl (vp_in_nI hj (by decide)) hv (C' := sB C 11 t j v) (by rw [hx]; exact congrArg (fun z => (Sum.inl (gZ G, 100, Sum.inl z) : va_E)) cB_upd) (fun f' i' h => enc_sB h) hdg (kk _ rfl)
theorem am (hC : CallFix p m c cc nL s args TT own) (hW : Wd G s A H0 H locs C M) {j i n : Nat} {x : Int32} (hj : (13, j) ∈ LL 0) (hc : mcl G j = gI G) (hn : mlen j = n) (hx : x = nI i) (hi : i < n) (hdg : decode cc pc = .ok (.iaload, 1))
    (kk : W p l e R s m args below meth c H locs cells slots Q (F0 m (pc + 1) ls (.int (mA M j i) :: rest))) : W p l e R s m args below meth c H locs cells slots Q (F0 m pc ls (.int x :: .ref (zad G 13 j) :: rest)) := by
  subst hx; subst hn
  have hm : mlen j < 2 ^ 31 := by unfold mlen; split <;> decide
  refine z_iald hC hW (LL_13 hj) (show enc G C M 13 j = .inl (gI G, mlen j, .inl (mA M j)) by rw [← hc]; rfl) (vp_in_nI hi hm) hdg ?_
  rw [nI_clamp (by omega)]
  exact kk
theorem amz (hC : CallFix p m c cc nL s args TT own) (hW : Wd G s A H0 H locs C M) {j i n : Nat} {x : Int32} (hj : (13, j) ∈ LL 0) (hc : mcl G j = gZ G) (hn : mlen j = n) (hx : x = nI i) (hi : i < n) (hdg : decode cc pc = .ok (.baload, 1))
    (kk : W p l e R s m args below meth c H locs cells slots Q (F0 m (pc + 1) ls (.int (mA M j i) :: rest))) : W p l e R s m args below meth c H locs cells slots Q (F0 m pc ls (.int x :: .ref (zad G 13 j) :: rest)) := by
  subst hx; subst hn
  have hm : mlen j < 2 ^ 31 := by unfold mlen; split <;> decide
  refine z_zald hC hW (LL_13 hj) (show enc G C M 13 j = .inl (gZ G, mlen j, .inl (mA M j)) by rw [← hc]; rfl) (vp_in_nI hi hm) hdg ?_
  rw [nI_clamp (by omega)]
  exact kk
theorem mA_upd {M : MS} {j i : Nat} {v : Int32} : mA (smA M j i v) j = upd (mA M j) i v := by
  funext k
  unfold upd
  rw [mA_smA]
  by_cases h : k = i <;> simp [h]
theorem sm (hC : CallFix p m c cc nL s args TT own) (hW : Wd G s A H0 H locs C M) {j i n : Nat} {x v : Int32} (hj : (13, j) ∈ LL 0) (hc : mcl G j = gI G) (hn : mlen j = n) (hx : x = nI i) (hi : i < n) (hdg : decode cc pc = .ok (.iastore, 1))
    (kk : ∀ (M1 : MS), M1 = smA M j i v → ∀ (H1 : Heap) (locs1 : List Loc), Wd G s A H0 H1 locs1 C M1 → W p l e R s m args below meth c H1 locs1 cells slots Q (F0 m (pc + 1) ls rest)) : W p l e R s m args below meth c H locs cells slots Q (F0 m pc ls (.int v :: .int x :: .ref (zad G 13 j) :: rest)) := by
  subst hx; subst hn
  have hm : mlen j < 2 ^ 31 := by unfold mlen; split <;> decide
  have hv : (nI i).toNatClampNeg = i := nI_clamp (by omega)
  exact z_iast hC hW (LL_13 hj) (show enc G C M 13 j = .inl (gI G, mlen j, .inl (mA M j)) by rw [← hc]; rfl) (vp_in_nI hi hm) (C' := C) (M' := smA M j i v) (by rw [hv, ← mA_upd, ← hc]; rfl) (fun f' i' h => enc_smA h) hdg (kk _ rfl)
theorem smz (hC : CallFix p m c cc nL s args TT own) (hW : Wd G s A H0 H locs C M) {j i n : Nat} {x v : Int32} (hj : (13, j) ∈ LL 0) (hc : mcl G j = gZ G) (hn : mlen j = n) (hx : x = nI i) (hi : i < n) (hv : v = 0 ∨ v = 1) (hdg : decode cc pc = .ok (.bastore, 1))
    (kk : ∀ (M1 : MS), M1 = smA M j i v → ∀ (H1 : Heap) (locs1 : List Loc), Wd G s A H0 H1 locs1 C M1 → W p l e R s m args below meth c H1 locs1 cells slots Q (F0 m (pc + 1) ls rest)) : W p l e R s m args below meth c H locs cells slots Q (F0 m pc ls (.int v :: .int x :: .ref (zad G 13 j) :: rest)) := by
  subst hx; subst hn
  have hm : mlen j < 2 ^ 31 := by unfold mlen; split <;> decide
  have hx : (nI i).toNatClampNeg = i := nI_clamp (by omega)
  exact z_zast hC hW (LL_13 hj) (show enc G C M 13 j = .inl (gZ G, mlen j, .inl (mA M j)) by rw [← hc]; rfl) (vp_in_nI hi hm) hv (C' := C) (M' := smA M j i v) (by rw [hx, ← mA_upd, ← hc]; rfl) (fun f' i' h => enc_smA h) hdg (kk _ rfl)
/-- kinds.length -/
theorem alen6 (hC : CallFix p m c cc nL s args TT own) (hW : Wd G s A H0 H locs C M) {b : Nat} (hb : isB (zn G) b) (hdg : decode cc pc = .ok (.arraylength, 1))
    (kk : W p l e R s m args below meth c H locs cells slots Q (F0 m (pc + 1) ls (.int (nI (cap b)) :: rest))) : W p l e R s m args below meth c H locs cells slots Q (F0 m pc ls (.ref (zad G 6 b) :: rest)) := by
  obtain ⟨q0, hq⟩ := w_get (G := G) (M := M) (LL_6 hb)
  exact va_alen hC.1 hC.2.1 hW.1 hW.2.1 q0 0 hq rfl (v := nI (cap b)) rfl hdg kk
/-- drives[d] -/
theorem ar (hC : CallFix p m c cc nL s args TT own) (hW : Wd G s A H0 H locs C M) {d : Nat} {x : Int32} (hx : x = nI d) (hd : d < 3) (hdg : decode cc pc = .ok (.aaload, 1))
    (kk : W p l e R s m args below meth c H locs cells slots Q (F0 m (pc + 1) ls (.ref (zad G 3 d) :: rest))) : W p l e R s m args below meth c H locs cells slots Q (F0 m pc ls (.int x :: .ref (zad G 2 0) :: rest)) := by
  subst hx
  obtain ⟨q0, hq⟩ := w_get (G := G) (M := M) (C := C) LL_2
  refine va_aldq hC.1 hC.2.1 hW.1 hW.2.1 q0 2 hq rfl (vp_in_nI hd (by decide)) hdg ?_
  rw [nI_clamp (by omega)]
  exact kk
/-- tapes[t] -/
theorem at9 (hC : CallFix p m c cc nL s args TT own) (hW : Wd G s A H0 H locs C M) {t : Nat} {x : Int32} (hx : x = nI t) (ht : t < zn G) (h12 : zn G ≤ 12) (hdg : decode cc pc = .ok (.aaload, 1))
    (kk : W p l e R s m args below meth c H locs cells slots Q (F0 m (pc + 1) ls (.ref (zad G 9 t) :: rest))) : W p l e R s m args below meth c H locs cells slots Q (F0 m pc ls (.int x :: .ref (zad G 4 0) :: rest)) := by
  subst hx
  obtain ⟨q0, hq⟩ := w_get (G := G) (M := M) (C := C) LL_4
  refine va_aldq hC.1 hC.2.1 hW.1 hW.2.1 q0 3 hq rfl (vp_in_nI (N := 12) (by omega) (by decide)) hdg ?_
  rw [nI_clamp (by omega), show rowT G (zn G) t = some (zad G 9 t) from if_pos ht]
  exact kk
end ZR
