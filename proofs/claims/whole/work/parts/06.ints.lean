/-! ===== small numbers on the stack ===== -/
section ZI
variable {p : Program} {l : Launch} {e : Env} {R : Room} {s : State} {m : MethodId} {args : Array Value} {below : List Frame} {meth : Method} {c : Code} {H : Heap} {locs : List Loc} {cells slots : Nat} {Q : State → Prop}
variable {cc : ByteArray} {pc : Nat} {ls : Array Slot} {rest : List Value}
theorem z_top {x y : Int32} (h : x = y) (kk : W p l e R s m args below meth c H locs cells slots Q (F0 m pc ls (.int y :: rest))) : W p l e R s m args below meth c H locs cells slots Q (F0 m pc ls (.int x :: rest)) := by rw [h]; exact kk
theorem zi_add (hx : p.tables.exec = Jvm.exec) (hb : c.code = cc) {x y : Int32} {i j : Nat} (h1 : x = nI i) (h2 : y = nI j) (hdg : decode cc pc = .ok (.iadd, 1))
    (kk : W p l e R s m args below meth c H locs cells slots Q (F0 m (pc + 1) ls (.int (nI (i + j)) :: rest))) : W p l e R s m args below meth c H locs cells slots Q (F0 m pc ls (.int y :: .int x :: rest)) := by
  refine lv_iadd hx hb hdg ?_
  rw [h1, h2, nI_add]
  exact kk
theorem zi_mul (hx : p.tables.exec = Jvm.exec) (hb : c.code = cc) {x y : Int32} {i j : Nat} (h1 : x = nI i) (h2 : y = nI j) (hdg : decode cc pc = .ok (.imul, 1))
    (kk : W p l e R s m args below meth c H locs cells slots Q (F0 m (pc + 1) ls (.int (nI (i * j)) :: rest))) : W p l e R s m args below meth c H locs cells slots Q (F0 m pc ls (.int y :: .int x :: rest)) := by
  refine lv_imul hx hb hdg ?_
  rw [h1, h2, pk_mul]
  exact kk
theorem zi_sub (hx : p.tables.exec = Jvm.exec) (hb : c.code = cc) {x y : Int32} {i j : Nat} (h1 : x = nI i) (h2 : y = nI j) (h : j ≤ i) (hdg : decode cc pc = .ok (.isub, 1))
    (kk : W p l e R s m args below meth c H locs cells slots Q (F0 m (pc + 1) ls (.int (nI (i - j)) :: rest))) : W p l e R s m args below meth c H locs cells slots Q (F0 m pc ls (.int y :: .int x :: rest)) := by
  refine lv_isub hx hb hdg ?_
  rw [h1, h2, pk_sub h]
  exact kk
theorem zc_lt (hx : p.tables.exec = Jvm.exec) (hb : c.code = cc) {x y : Int32} {i j : Nat} {off : Int} {tgt : Nat} (h1 : x = nI i) (h2 : y = nI j) (hi : i < 2 ^ 31) (hj : j < 2 ^ 31) (hdg : decode cc pc = .ok (.if_icmp .lt off, 3)) (ht : (pc : Int) + off = (tgt : Int))
    (kt : i < j → W p l e R s m args below meth c H locs cells slots Q (F0 m tgt ls rest)) (kf : j ≤ i → W p l e R s m args below meth c H locs cells slots Q (F0 m (pc + 3) ls rest)) : W p l e R s m args below meth c H locs cells slots Q (F0 m pc ls (.int y :: .int x :: rest)) := by
  subst h1; subst h2
  refine lv_icmp_lt hx hb hdg ht (fun h => kt ?_) (fun h => kf ?_)
  · exact (nI_ltI hi hj).mp h
  · exact Nat.le_of_not_lt (fun q => h ((nI_ltI hi hj).mpr q))
theorem zc_ge (hx : p.tables.exec = Jvm.exec) (hb : c.code = cc) {x y : Int32} {i j : Nat} {off : Int} {tgt : Nat} (h1 : x = nI i) (h2 : y = nI j) (hi : i < 2 ^ 31) (hj : j < 2 ^ 31) (hdg : decode cc pc = .ok (.if_icmp .ge off, 3)) (ht : (pc : Int) + off = (tgt : Int))
    (kt : j ≤ i → W p l e R s m args below meth c H locs cells slots Q (F0 m tgt ls rest)) (kf : i < j → W p l e R s m args below meth c H locs cells slots Q (F0 m (pc + 3) ls rest)) : W p l e R s m args below meth c H locs cells slots Q (F0 m pc ls (.int y :: .int x :: rest)) := by
  subst h1; subst h2
  refine lv_icmp_ge hx hb hdg ht (fun h => kt ?_) (fun h => kf ?_)
  · exact (nI_leI hj hi).mp h
  · exact Nat.lt_of_not_le (fun q => h ((nI_leI hj hi).mpr q))
theorem zc_gt (hx : p.tables.exec = Jvm.exec) (hb : c.code = cc) {x y : Int32} {i j : Nat} {off : Int} {tgt : Nat} (h1 : x = nI i) (h2 : y = nI j) (hi : i < 2 ^ 31) (hj : j < 2 ^ 31) (hdg : decode cc pc = .ok (.if_icmp .gt off, 3)) (ht : (pc : Int) + off = (tgt : Int))
    (kt : j < i → W p l e R s m args below meth c H locs cells slots Q (F0 m tgt ls rest)) (kf : i ≤ j → W p l e R s m args below meth c H locs cells slots Q (F0 m (pc + 3) ls rest)) : W p l e R s m args below meth c H locs cells slots Q (F0 m pc ls (.int y :: .int x :: rest)) := by
  subst h1; subst h2
  refine lv_icmp_gt hx hb hdg ht (fun h => kt ?_) (fun h => kf ?_)
  · exact (nI_ltI hj hi).mp h
  · exact Nat.le_of_not_lt (fun q => h ((nI_ltI hj hi).mpr q))
theorem zc_le (hx : p.tables.exec = Jvm.exec) (hb : c.code = cc) {x y : Int32} {i j : Nat} {off : Int} {tgt : Nat} (h1 : x = nI i) (h2 : y = nI j) (hi : i < 2 ^ 31) (hj : j < 2 ^ 31) (hdg : decode cc pc = .ok (.if_icmp .le off, 3)) (ht : (pc : Int) + off = (tgt : Int))
    (kt : i ≤ j → W p l e R s m args below meth c H locs cells slots Q (F0 m tgt ls rest)) (kf : j < i → W p l e R s m args below meth c H locs cells slots Q (F0 m (pc + 3) ls rest)) : W p l e R s m args below meth c H locs cells slots Q (F0 m pc ls (.int y :: .int x :: rest)) := by
  subst h1; subst h2
  refine lv_icmp_le hx hb hdg ht (fun h => kt ?_) (fun h => kf ?_)
  · exact (nI_leI hi hj).mp h
  · exact Nat.lt_of_not_le (fun q => h ((nI_leI hi hj).mpr q))
theorem zc_eq (hx : p.tables.exec = Jvm.exec) (hb : c.code = cc) {x y : Int32} {i j : Nat} {off : Int} {tgt : Nat} (h1 : x = nI i) (h2 : y = nI j) (hi : i < 2 ^ 31) (hj : j < 2 ^ 31) (hdg : decode cc pc = .ok (.if_icmp .eq off, 3)) (ht : (pc : Int) + off = (tgt : Int))
    (kt : i = j → W p l e R s m args below meth c H locs cells slots Q (F0 m tgt ls rest)) (kf : i ≠ j → W p l e R s m args below meth c H locs cells slots Q (F0 m (pc + 3) ls rest)) : W p l e R s m args below meth c H locs cells slots Q (F0 m pc ls (.int y :: .int x :: rest)) := by
  subst h1; subst h2
  refine lv_icmp_eq hx hb hdg ht (fun h => kt ?_) (fun h => kf ?_)
  · exact (nI_eq hi hj).mp h
  · exact fun q => h ((nI_eq hi hj).mpr q)
theorem zc_ne (hx : p.tables.exec = Jvm.exec) (hb : c.code = cc) {x y : Int32} {i j : Nat} {off : Int} {tgt : Nat} (h1 : x = nI i) (h2 : y = nI j) (hi : i < 2 ^ 31) (hj : j < 2 ^ 31) (hdg : decode cc pc = .ok (.if_icmp .ne off, 3)) (ht : (pc : Int) + off = (tgt : Int))
    (kt : i ≠ j → W p l e R s m args below meth c H locs cells slots Q (F0 m tgt ls rest)) (kf : i = j → W p l e R s m args below meth c H locs cells slots Q (F0 m (pc + 3) ls rest)) : W p l e R s m args below meth c H locs cells slots Q (F0 m pc ls (.int y :: .int x :: rest)) := by
  subst h1; subst h2
  refine lv_icmp_ne hx hb hdg ht (fun h => kt ?_) (fun h => kf ?_)
  · exact fun q => h ((nI_eq hi hj).mpr q)
  · exact (nI_eq hi hj).mp h
/-- a small number is compared with 0 -/
theorem zf_lt (hx : p.tables.exec = Jvm.exec) (hb : c.code = cc) {x : Int32} {i : Nat} {off : Int} {tgt : Nat} (h1 : x = nI i) (hi : i < 2 ^ 31) (hdg : decode cc pc = .ok (.ifCond .lt off, 3)) (ht : (pc : Int) + off = (tgt : Int))
    (kf : W p l e R s m args below meth c H locs cells slots Q (F0 m (pc + 3) ls rest)) : W p l e R s m args below meth c H locs cells slots Q (F0 m pc ls (.int x :: rest)) := by
  subst h1
  exact lv_if_lt hx hb hdg ht (fun h => absurd h (nI_pos hi)) (fun h => kf)
theorem zf_ge (hx : p.tables.exec = Jvm.exec) (hb : c.code = cc) {x : Int32} {i : Nat} {off : Int} {tgt : Nat} (h1 : x = nI i) (hi : i < 2 ^ 31) (hdg : decode cc pc = .ok (.ifCond .ge off, 3)) (ht : (pc : Int) + off = (tgt : Int))
    (kt : W p l e R s m args below meth c H locs cells slots Q (F0 m tgt ls rest)) : W p l e R s m args below meth c H locs cells slots Q (F0 m pc ls (.int x :: rest)) := by
  subst h1
  exact lv_if_ge hx hb hdg ht (fun h => kt) (fun h => absurd (nI_pos' hi) h)
theorem zf_eq (hx : p.tables.exec = Jvm.exec) (hb : c.code = cc) {x : Int32} {i : Nat} {off : Int} {tgt : Nat} (h1 : x = nI i) (hi : i < 2 ^ 31) (hdg : decode cc pc = .ok (.ifCond .eq off, 3)) (ht : (pc : Int) + off = (tgt : Int))
    (kt : i = 0 → W p l e R s m args below meth c H locs cells slots Q (F0 m tgt ls rest)) (kf : i ≠ 0 → W p l e R s m args below meth c H locs cells slots Q (F0 m (pc + 3) ls rest)) : W p l e R s m args below meth c H locs cells slots Q (F0 m pc ls (.int x :: rest)) := by
  subst h1
  refine lv_if_eq hx hb hdg ht (fun h => kt ?_) (fun h => kf ?_)
  · exact Classical.byContradiction (fun q => nI_ne0 (Nat.pos_of_ne_zero q) hi h)
  · intro q; subst q; exact h rfl
theorem zf_ne (hx : p.tables.exec = Jvm.exec) (hb : c.code = cc) {x : Int32} {i : Nat} {off : Int} {tgt : Nat} (h1 : x = nI i) (hi : i < 2 ^ 31) (hdg : decode cc pc = .ok (.ifCond .ne off, 3)) (ht : (pc : Int) + off = (tgt : Int))
    (kt : i ≠ 0 → W p l e R s m args below meth c H locs cells slots Q (F0 m tgt ls rest)) (kf : i = 0 → W p l e R s m args below meth c H locs cells slots Q (F0 m (pc + 3) ls rest)) : W p l e R s m args below meth c H locs cells slots Q (F0 m pc ls (.int x :: rest)) := by
  subst h1
  refine lv_if_ne hx hb hdg ht (fun h => kt ?_) (fun h => kf ?_)
  · intro q; subst q; exact h rfl
  · exact Classical.byContradiction (fun q => nI_ne0 (Nat.pos_of_ne_zero q) hi h)
theorem zf_le (hx : p.tables.exec = Jvm.exec) (hb : c.code = cc) {x : Int32} {i : Nat} {off : Int} {tgt : Nat} (h1 : x = nI i) (hi : i < 2 ^ 31) (hdg : decode cc pc = .ok (.ifCond .le off, 3)) (ht : (pc : Int) + off = (tgt : Int))
    (kt : i = 0 → W p l e R s m args below meth c H locs cells slots Q (F0 m tgt ls rest)) (kf : i ≠ 0 → W p l e R s m args below meth c H locs cells slots Q (F0 m (pc + 3) ls rest)) : W p l e R s m args below meth c H locs cells slots Q (F0 m pc ls (.int x :: rest)) := by
  subst h1
  refine lv_if_le hx hb hdg ht (fun h => kt ?_) (fun h => kf ?_)
  · exact Classical.byContradiction (fun q => nI_nle (Nat.pos_of_ne_zero q) hi h)
  · intro q; subst q; exact h (by decide)
theorem zf_gt (hx : p.tables.exec = Jvm.exec) (hb : c.code = cc) {x : Int32} {i : Nat} {off : Int} {tgt : Nat} (h1 : x = nI i) (hi : i < 2 ^ 31) (hdg : decode cc pc = .ok (.ifCond .gt off, 3)) (ht : (pc : Int) + off = (tgt : Int))
    (kt : 0 < i → W p l e R s m args below meth c H locs cells slots Q (F0 m tgt ls rest)) (kf : i = 0 → W p l e R s m args below meth c H locs cells slots Q (F0 m (pc + 3) ls rest)) : W p l e R s m args below meth c H locs cells slots Q (F0 m pc ls (.int x :: rest)) := by
  subst h1
  refine lv_if_gt hx hb hdg ht (fun h => kt ?_) (fun h => kf ?_)
  · exact Nat.pos_of_ne_zero (fun q => by subst q; exact absurd h (by decide))
  · exact Classical.byContradiction (fun q => h ((nI_ltI (a := 0) (by decide) hi).mpr (Nat.pos_of_ne_zero q)))
end ZI
theorem nI_inc (a : Nat) : nI a + Int32.ofInt 1 = nI (a + 1) := nI_1 a
/-! ===== a boolean of a condition ===== -/
def bI (P : Prop) [Decidable P] : Int32 := if P then 1 else 0
theorem bI_t {P : Prop} [Decidable P] (h : P) : (1 : Int32) = bI P := (if_pos h).symm
theorem bI_f {P : Prop} [Decidable P] (h : ¬ P) : (0 : Int32) = bI P := (if_neg h).symm
theorem bI_01 (P : Prop) [Decidable P] : bI P = 0 ∨ bI P = 1 := by unfold bI; split <;> simp
theorem bI_e0 {P : Prop} [Decidable P] : bI P = 0 ↔ ¬ P := by unfold bI; split <;> simp [*]
section ZB
variable {p : Program} {l : Launch} {e : Env} {R : Room} {s : State} {m : MethodId} {args : Array Value} {below : List Frame} {meth : Method} {c : Code} {H : Heap} {locs : List Loc} {cells slots : Nat} {Q : State → Prop}
variable {cc : ByteArray} {pc : Nat} {ls : Array Slot} {rest : List Value}
theorem zb_eq (hx : p.tables.exec = Jvm.exec) (hb : c.code = cc) (P : Prop) [Decidable P] {x : Int32} {off : Int} {tgt : Nat} (h1 : x = bI P) (hdg : decode cc pc = .ok (.ifCond .eq off, 3)) (ht : (pc : Int) + off = (tgt : Int))
    (kt : ¬ P → W p l e R s m args below meth c H locs cells slots Q (F0 m tgt ls rest)) (kf : P → W p l e R s m args below meth c H locs cells slots Q (F0 m (pc + 3) ls rest)) : W p l e R s m args below meth c H locs cells slots Q (F0 m pc ls (.int x :: rest)) := by
  subst h1
  exact lv_if_eq hx hb hdg ht (fun h => kt (bI_e0.mp h)) (fun h => kf (Classical.byContradiction (fun q => h (bI_e0.mpr q))))
theorem zb_ne (hx : p.tables.exec = Jvm.exec) (hb : c.code = cc) (P : Prop) [Decidable P] {x : Int32} {off : Int} {tgt : Nat} (h1 : x = bI P) (hdg : decode cc pc = .ok (.ifCond .ne off, 3)) (ht : (pc : Int) + off = (tgt : Int))
    (kt : P → W p l e R s m args below meth c H locs cells slots Q (F0 m tgt ls rest)) (kf : ¬ P → W p l e R s m args below meth c H locs cells slots Q (F0 m (pc + 3) ls rest)) : W p l e R s m args below meth c H locs cells slots Q (F0 m pc ls (.int x :: rest)) := by
  subst h1
  exact lv_if_ne hx hb hdg ht (fun h => kt (Classical.byContradiction (fun q => h (bI_e0.mpr q)))) (fun h => kf (bI_e0.mp h))
end ZB
