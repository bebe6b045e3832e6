/-! ===== from the entry: the two sides are made ===== -/
def cS0 : CS := (fun f _ k => match f, k with
  | 0, 7 => 1
  | 1, 2 => -1
  | 3, 5 => -1
  | _, _ => 0, fun _ _ _ => 0, fun _ _ _ => 0, fun _ => none)
def mS0 : MS := (fun k => match k with
  | 24 => 1
  | 29 => -1
  | _ => 0, fun j => match j with
  | 12 => upd (upd (upd (fun _ => 0) 0 (-1)) 1 (-1)) 2 (-1)
  | _ => fun _ => 0)
def ad0 (a0 u1 u2 u30 u31 u32 u4 u5 u6 u7 u8 b0 q1 q2 q3 q4 q5 q6 q7 q8 q9 q10 q11 q12 q13 q14 q15 q16 q17 q18 q19 : Nat) : Nat → Nat → Nat := fun f i => match f, i with
  | 0, 0 => a0
  | 1, 0 => u1
  | 2, 0 => u2
  | 3, 0 => u30
  | 3, 1 => u31
  | 3, 2 => u32
  | 4, 0 => u4
  | 5, 12 => u5
  | 6, 12 => u6
  | 7, 12 => u7
  | 8, 12 => u8
  | 12, 0 => b0
  | 13, 1 => q1
  | 13, 2 => q2
  | 13, 3 => q3
  | 13, 4 => q4
  | 13, 5 => q5
  | 13, 6 => q6
  | 13, 7 => q7
  | 13, 8 => q8
  | 13, 9 => q9
  | 13, 10 => q10
  | 13, 11 => q11
  | 13, 12 => q12
  | 13, 13 => q13
  | 13, 14 => q14
  | 13, 15 => q15
  | 13, 16 => q16
  | 13, 17 => q17
  | 13, 18 => q18
  | 13, 19 => q19
  | _, _ => 0
theorem mS0_9 (j : Nat) (i : Nat) (h : j ≠ 12) : mA mS0 j i = 0 := by
  show (match j with
  | 12 => upd (upd (upd (fun _ => 0) 0 (-1)) 1 (-1)) 2 (-1)
  | _ => fun _ => (0 : Int32)) i = 0
  split
  · exact absurd rfl h
  · rfl
set_option maxHeartbeats 4000000 in
set_option maxRecDepth 100000 in
theorem RR_0 : RR 0 cS0 mS0 := by
  refine ⟨⟨⟨fun b => Nat.zero_le _, fun b j => ⟨by show (0 : Int32) = nI (0 : Int32).toNatClampNeg; decide, by show (0 : Int32).toNatClampNeg ≤ 30; decide⟩, fun t => by show 0 < 32; decide⟩, fun d => rfl, ⟨⟨rfl, rfl, rfl, rfl, rfl⟩, fun d hd => ?_, fun t h => absurd h (Nat.not_lt_zero _), fun t a h => absurd h (Nat.not_lt_zero _), fun t _ _ => ⟨⟨rfl, rfl, rfl⟩, fun a _ => ⟨rfl, rfl, rfl, rfl⟩⟩⟩, fun d _ => rfl, fun t h => absurd h (Nat.not_lt_zero _), fun b _ a q => ?_, Or.inl ⟨rfl, rfl⟩, fun t nm _ _ _ => rfl⟩, rfl, rfl⟩
  · rcases (show d = 0 ∨ d = 1 ∨ d = 2 by omega) with rfl | rfl | rfl <;> exact ⟨rfl, fun _ => rfl, rfl, rfl⟩
  · exact absurd (show (0 : Int32) = 1 from q) (by decide)
theorem va_AR {T : FieldType} {s : State} {A : Array Value} (h : (Cond.arrayClass T).before A s = true) (hr : ∀ C, T ≠ .object C) : ∃ c, ArrOfT s c T ∧ va_RA s c T := by
  obtain ⟨c, k, comp, h1, h2, h3⟩ := Cond.arrayClass_spec h
  refine ⟨c, fun n z => ⟨(fun k h => by cases h), k, h2, comp, h3⟩, ?_⟩
  cases T with
  | object C => exact absurd rfl (hr C)
  | _ => exact h1
theorem va_ARo {C : String} {s : State} (h : va_AO C s) : ∃ c, ArrOfT s c (.object C) ∧ va_RA s c (.object C) := by
  obtain ⟨comp, c, k, h1, h2, h3, h4, h5⟩ := Cond.arrayOver_spec h
  exact ⟨c, fun n z => ⟨(fun k h => by cases h), k, h3, comp, h4⟩, k, comp, h3, h4, h1, h5⟩
theorem row3 {c : ClassId} {f g : Nat → Option Nat} (h0 : f 0 = g 0) (h1 : f 1 = g 1) (h2 : f 2 = g 2) : vp_cell c (3, .inr (.inr (.inr (.inr f)))) = vp_cell c (3, .inr (.inr (.inr (.inr g)))) := by
  show arrV c 3 (fun j => va_rf (f j)) = arrV c 3 (fun j => va_rf (g j))
  have e : ∀ j : Fin 3, va_rf (f j.val) = va_rf (g j.val) := by
    intro j
    rcases (show j.val = 0 ∨ j.val = 1 ∨ j.val = 2 by omega) with q | q | q <;> rw [q]
    · rw [h0]
    · rw [h1]
    · rw [h2]
  unfold arrV
  rw [show (fun j : Fin 3 => va_rf (f j.val)) = fun j => va_rf (g j.val) from funext e]
set_option maxHeartbeats 4000000 in
set_option maxRecDepth 100000 in
theorem world_0 (D : va_G) (cI cZ cR cT : ClassId) (a0 u1 u2 u30 u31 u32 u4 u5 u6 u7 u8 b0 q1 q2 q3 q4 q5 q6 q7 q8 q9 q10 q11 q12 q13 q14 q15 q16 q17 q18 q19 : Nat) : world (D, ((cI, cZ), (cR, cT)), ad0 a0 u1 u2 u30 u31 u32 u4 u5 u6 u7 u8 b0 q1 q2 q3 q4 q5 q6 q7 q8 q9 q10 q11 q12 q13 q14 q15 q16 q17 q18 q19, 0) cS0 mS0 = [(a0, .inr (4, [.ref u1, .ref u2, .ref u4, .ref u5, .int 0, .int 0, .int 0, .int 1])), (u1, .inr (2, [.int 0, .int 0, .int (-1)])), (u2, .inl (cR, 3, .inr (.inr (.inr (.inr (fun j => some (ad0 a0 u1 u2 u30 u31 u32 u4 u5 u6 u7 u8 b0 q1 q2 q3 q4 q5 q6 q7 q8 q9 q10 q11 q12 q13 q14 q15 q16 q17 q18 q19 3 j))))))), (u30, .inr (1, [.int 8, .ref u1, .int 0, .int 0, .int 0, .int (-1), .null, .int 0, .int 0])), (u31, .inr (1, [.int 16, .ref u1, .int 0, .int 0, .int 0, .int (-1), .null, .int 0, .int 0])), (u32, .inr (1, [.int 24, .ref u1, .int 0, .int 0, .int 0, .int (-1), .null, .int 0, .int 0])), (u4, .inl (cT, 12, .inr (.inr (.inr (.inr (rowT (D, ((cI, cZ), (cR, cT)), ad0 a0 u1 u2 u30 u31 u32 u4 u5 u6 u7 u8 b0 q1 q2 q3 q4 q5 q6 q7 q8 q9 q10 q11 q12 q13 q14 q15 q16 q17 q18 q19, 0) 0)))))), (u5, .inr (0, [.ref u6, .ref u7, .ref u8, .int 0])), (u6, .inl (cI, 32, .inl (fun _ => 0))), (u7, .inl (cI, 32, .inl (fun _ => 0))), (u8, .inl (cI, 32, .inl (fun _ => 0))), (b0, .inr (5, [.int 0, .ref q1, .ref q2, .ref q3, .ref q4, .ref q5, .ref q6, .ref q7, .ref q8, .ref q9, .ref q10, .ref q11, .ref q12, .ref q13, .ref q14, .ref q15, .ref q16, .ref q17, .ref q18, .ref q19, .int 0, .int 0, .int 0, .int 0, .int 1, .int 0, .int 0, .int 0, .int 0, .int (-1), .int 0])), (q1, .inl (cI, 12, .inl (fun _ => 0))), (q2, .inl (cI, 12, .inl (fun _ => 0))), (q3, .inl (cI, 12, .inl (fun _ => 0))), (q4, .inl (cI, 12, .inl (fun _ => 0))), (q5, .inl (cI, 1200, .inl (fun _ => 0))), (q6, .inl (cI, 1200, .inl (fun _ => 0))), (q7, .inl (cI, 1200, .inl (fun _ => 0))), (q8, .inl (cZ, 1200, .inl (fun _ => 0))), (q9, .inl (cI, 12000, .inl (fun _ => 0))), (q10, .inl (cZ, 3, .inl (fun _ => 0))), (q11, .inl (cZ, 3, .inl (fun _ => 0))), (q12, .inl (cI, 3, .inl (upd (upd (upd (fun _ => 0) 0 (-1)) 1 (-1)) 2 (-1)))), (q13, .inl (cI, 3, .inl (fun _ => 0))), (q14, .inl (cI, 3, .inl (fun _ => 0))), (q15, .inl (cI, 2, .inl (fun _ => 0))), (q16, .inl (cI, 2, .inl (fun _ => 0))), (q17, .inl (cI, 2, .inl (fun _ => 0))), (q18, .inl (cZ, 2, .inl (fun _ => 0))), (q19, .inl (cI, 2, .inl (fun _ => 0)))] := rfl
theorem rowT_0 (G : GG) : rowT G 0 = fun _ => none := by
  funext j
  unfold rowT
  rw [if_neg (Nat.not_lt_zero _)]
set_option maxHeartbeats 4000000 in
set_option maxRecDepth 100000 in
theorem start_P {D : va_G} {cI cZ cR cT : ClassId} {a0 u1 u2 u30 u31 u32 u4 u5 u6 u7 u8 b0 q1 q2 q3 q4 q5 q6 q7 q8 q9 q10 q11 q12 q13 q14 q15 q16 q17 q18 q19 : Nat} {H : Heap} {A : Nat → Prop} (hP : va_P D vwCl [(a0, .inr (4, [.ref u1, .ref u2, .ref u4, .ref u5, .int 0, .int 0, .int 0, .int 1])), (u1, .inr (2, [.int 0, .int 0, .int (-1)])), (u2, .inl (cR, 3, .inr (.inr (.inr (.inr (va_up (va_up (va_up (fun _ => none) 0 (some u30)) 1 (some u31)) 2 (some u32))))))), (u30, .inr (1, [.int 8, .ref u1, .int 0, .int 0, .int 0, .int (-1), .null, .int 0, .int 0])), (u31, .inr (1, [.int 16, .ref u1, .int 0, .int 0, .int 0, .int (-1), .null, .int 0, .int 0])), (u32, .inr (1, [.int 24, .ref u1, .int 0, .int 0, .int 0, .int (-1), .null, .int 0, .int 0])), (u4, .inl (cT, 12, .inr (.inr (.inr (.inr (fun _ => none)))))), (u5, .inr (0, [.ref u6, .ref u7, .ref u8, .int 0])), (u6, .inl (cI, 32, .inl (fun _ => 0))), (u7, .inl (cI, 32, .inl (fun _ => 0))), (u8, .inl (cI, 32, .inl (fun _ => 0))), (b0, .inr (5, [.int 0, .ref q1, .ref q2, .ref q3, .ref q4, .ref q5, .ref q6, .ref q7, .ref q8, .ref q9, .ref q10, .ref q11, .ref q12, .ref q13, .ref q14, .ref q15, .ref q16, .ref q17, .ref q18, .ref q19, .int 0, .int 0, .int 0, .int 0, .int 1, .int 0, .int 0, .int 0, .int 0, .int (-1), .int 0])), (q1, .inl (cI, 12, .inl (fun _ => 0))), (q2, .inl (cI, 12, .inl (fun _ => 0))), (q3, .inl (cI, 12, .inl (fun _ => 0))), (q4, .inl (cI, 12, .inl (fun _ => 0))), (q5, .inl (cI, 1200, .inl (fun _ => 0))), (q6, .inl (cI, 1200, .inl (fun _ => 0))), (q7, .inl (cI, 1200, .inl (fun _ => 0))), (q8, .inl (cZ, 1200, .inl (fun _ => 0))), (q9, .inl (cI, 12000, .inl (fun _ => 0))), (q10, .inl (cZ, 3, .inl (fun _ => 0))), (q11, .inl (cZ, 3, .inl (fun _ => 0))), (q12, .inl (cI, 3, .inl (upd (upd (upd (fun _ => 0) 0 (-1)) 1 (-1)) 2 (-1)))), (q13, .inl (cI, 3, .inl (fun _ => 0))), (q14, .inl (cI, 3, .inl (fun _ => 0))), (q15, .inl (cI, 2, .inl (fun _ => 0))), (q16, .inl (cI, 2, .inl (fun _ => 0))), (q17, .inl (cI, 2, .inl (fun _ => 0))), (q18, .inl (cZ, 2, .inl (fun _ => 0))), (q19, .inl (cI, 2, .inl (fun _ => 0)))] H) (hD : va_D A [(a0, .inr (4, [.ref u1, .ref u2, .ref u4, .ref u5, .int 0, .int 0, .int 0, .int 1])), (u1, .inr (2, [.int 0, .int 0, .int (-1)])), (u2, .inl (cR, 3, .inr (.inr (.inr (.inr (va_up (va_up (va_up (fun _ => none) 0 (some u30)) 1 (some u31)) 2 (some u32))))))), (u30, .inr (1, [.int 8, .ref u1, .int 0, .int 0, .int 0, .int (-1), .null, .int 0, .int 0])), (u31, .inr (1, [.int 16, .ref u1, .int 0, .int 0, .int 0, .int (-1), .null, .int 0, .int 0])), (u32, .inr (1, [.int 24, .ref u1, .int 0, .int 0, .int 0, .int (-1), .null, .int 0, .int 0])), (u4, .inl (cT, 12, .inr (.inr (.inr (.inr (fun _ => none)))))), (u5, .inr (0, [.ref u6, .ref u7, .ref u8, .int 0])), (u6, .inl (cI, 32, .inl (fun _ => 0))), (u7, .inl (cI, 32, .inl (fun _ => 0))), (u8, .inl (cI, 32, .inl (fun _ => 0))), (b0, .inr (5, [.int 0, .ref q1, .ref q2, .ref q3, .ref q4, .ref q5, .ref q6, .ref q7, .ref q8, .ref q9, .ref q10, .ref q11, .ref q12, .ref q13, .ref q14, .ref q15, .ref q16, .ref q17, .ref q18, .ref q19, .int 0, .int 0, .int 0, .int 0, .int 1, .int 0, .int 0, .int 0, .int 0, .int (-1), .int 0])), (q1, .inl (cI, 12, .inl (fun _ => 0))), (q2, .inl (cI, 12, .inl (fun _ => 0))), (q3, .inl (cI, 12, .inl (fun _ => 0))), (q4, .inl (cI, 12, .inl (fun _ => 0))), (q5, .inl (cI, 1200, .inl (fun _ => 0))), (q6, .inl (cI, 1200, .inl (fun _ => 0))), (q7, .inl (cI, 1200, .inl (fun _ => 0))), (q8, .inl (cZ, 1200, .inl (fun _ => 0))), (q9, .inl (cI, 12000, .inl (fun _ => 0))), (q10, .inl (cZ, 3, .inl (fun _ => 0))), (q11, .inl (cZ, 3, .inl (fun _ => 0))), (q12, .inl (cI, 3, .inl (upd (upd (upd (fun _ => 0) 0 (-1)) 1 (-1)) 2 (-1)))), (q13, .inl (cI, 3, .inl (fun _ => 0))), (q14, .inl (cI, 3, .inl (fun _ => 0))), (q15, .inl (cI, 2, .inl (fun _ => 0))), (q16, .inl (cI, 2, .inl (fun _ => 0))), (q17, .inl (cI, 2, .inl (fun _ => 0))), (q18, .inl (cZ, 2, .inl (fun _ => 0))), (q19, .inl (cI, 2, .inl (fun _ => 0)))]) : va_P D vwCl (world (D, ((cI, cZ), (cR, cT)), ad0 a0 u1 u2 u30 u31 u32 u4 u5 u6 u7 u8 b0 q1 q2 q3 q4 q5 q6 q7 q8 q9 q10 q11 q12 q13 q14 q15 q16 q17 q18 q19, 0) cS0 mS0) H ∧ va_D A (world (D, ((cI, cZ), (cR, cT)), ad0 a0 u1 u2 u30 u31 u32 u4 u5 u6 u7 u8 b0 q1 q2 q3 q4 q5 q6 q7 q8 q9 q10 q11 q12 q13 q14 q15 q16 q17 q18 q19, 0) cS0 mS0) := by
  rw [world_0, rowT_0]
  have h2 : H[u2]? = some (vp_cell cR (3, .inr (.inr (.inr (.inr (va_up (va_up (va_up (fun _ => none) 0 (some u30)) 1 (some u31)) 2 (some u32))))))) := hP 2 _ rfl
  refine ⟨hP.set (p := 2) hD rfl (e := .inl (cR, 3, .inr (.inr (.inr (.inr (fun j => some (ad0 a0 u1 u2 u30 u31 u32 u4 u5 u6 u7 u8 b0 q1 q2 q3 q4 q5 q6 q7 q8 q9 q10 q11 q12 q13 q14 q15 q16 q17 q18 q19 3 j))))))) ?_ (fun _ _ => rfl), hD.set (p := 2) rfl (e := .inl (cR, 3, .inr (.inr (.inr (.inr (fun j => some (ad0 a0 u1 u2 u30 u31 u32 u4 u5 u6 u7 u8 b0 q1 q2 q3 q4 q5 q6 q7 q8 q9 q10 q11 q12 q13 q14 q15 q16 q17 q18 q19 3 j)))))))⟩
  show H[u2]? = some (vp_cell cR (3, .inr (.inr (.inr (.inr (fun j => some (ad0 a0 u1 u2 u30 u31 u32 u4 u5 u6 u7 u8 b0 q1 q2 q3 q4 q5 q6 q7 q8 q9 q10 q11 q12 q13 q14 q15 q16 q17 q18 q19 3 j)))))))
  rw [h2]
  exact congrArg some (row3 rfl rfl rfl)
set_option maxHeartbeats 4000000 in
set_option maxRecDepth 100000 in
theorem whole_start {p : Program} {e : Env} {s : State} {m : MethodId} {below : List Frame} {meth : Method} {c : Code} (l : Launch) (hflags : l.flags = flags0) {b L : Nat} {xs : Nat → Int32} (hL : L ≤ 240) (C0 : lw_At p s m meth c b L xs) : W p l e room_1 s m #[Value.ref b] below meth c s.heap [] 0 0 (lw_Z below #[Value.ref b] s) (entryFrame m ([Value.ref b] : List Value).toArray 4) := by
  have C00 := C0
  obtain ⟨hx, hb, hr, hml, hown, hts, hX, hbl, hlocks, hgv⟩ := C0
  have htsT : ∀ w ∈ TT, w.before #[Value.ref b] s = true := fun w h => hts w (TT_tbl h)
  have hC : CallFix p m c code 4 s #[Value.ref b] TT RL := ⟨hx, hb, hml, hown, htsT⟩
  have hE : EX s := ⟨va_AO.of (hts _ (List.mem_of_getElem? (i := 64) (by decide +kernel))), va_AO.of (hts _ (List.mem_of_getElem? (i := 103) (by decide +kernel))), va_Nw.of rfl (hts _ (List.mem_of_getElem? (i := 46) (by decide +kernel)))⟩
  obtain ⟨c0, i0, k0⟩ := u_known (C := RX0) (T := TX0) (N := 4) htsT uW0 (htsT _ mB_X0)
  obtain ⟨c1, i1, k1⟩ := u_known (C := RX1) (T := TX1) (N := 9) htsT uW1 (htsT _ mB_X1)
  obtain ⟨c2, i2, k2⟩ := u_known (C := RX2) (T := TX2) (N := 3) htsT uW2 (htsT _ mB_X2)
  obtain ⟨c3, i3, k3⟩ := u_known (C := RX3) (T := TX3) (N := 6) htsT uW3 (htsT _ mB_X3)
  obtain ⟨c4, i4, k4⟩ := u_known (C := RX4) (T := TX4) (N := 8) htsT uW4 (htsT _ mB_X4)
  obtain ⟨c5, i5, k5⟩ := u_known (C := RX5) (T := TX5) (N := 31) htsT uW5 (htsT _ mB_X5)
  obtain ⟨cI, rI⟩ := va_AR (htsT _ mA_126) (fun C h => by cases h)
  obtain ⟨cZ, rZ⟩ := va_AR (htsT _ mA_192) (fun C h => by cases h)
  obtain ⟨cR, rR⟩ := va_ARo hE.1
  obtain ⟨cT, rT⟩ := va_ARo hE.2.1
  obtain ⟨D, hDe⟩ : ∃ D : va_G, D = (fun k => match k with | 0 => c0 | 1 => c1 | 2 => c2 | 3 => c3 | 4 => c4 | _ => c5, fun k => match k with | 0 => i0 | 1 => i1 | 2 => i2 | 3 => i3 | 4 => i4 | _ => i5) := ⟨_, rfl⟩
  have hKs : ∀ (z : Nat → Nat → Nat) (n : Nat), va_K D vwCl (TYS (D, ((cI, cZ), (cR, cT)), z, n)) s := fun z n => by
    rw [hDe]
    refine ⟨fun k q hq => ?_, fun k q hq => ?_⟩
    · match k, hq with
      | 0, hq => cases hq; exact k0
      | 1, hq => cases hq; exact k1
      | 2, hq => cases hq; exact k2
      | 3, hq => cases hq; exact k3
      | 4, hq => cases hq; exact k4
      | 5, hq => cases hq; exact k5
      | k + 6, hq => simp at hq
    · match k, hq with
      | 0, hq => cases hq; exact rI
      | 1, hq => cases hq; exact rZ
      | 2, hq => cases hq; exact rR
      | 3, hq => cases hq; exact rT
      | k + 4, hq => simp at hq
  obtain ⟨G, hG⟩ : ∃ G : GG, G = (D, ((cI, cZ), (cR, cT)), fun _ _ => 0, 0) := ⟨_, rfl⟩
  have hGD : gD G = D := by rw [hG]; rfl
  have hK : va_K (gD G) vwCl (TYS G) s := by rw [hG]; exact hKs _ _
  have hA : ∀ q, s.heap.size ≤ q → (fun q : Nat => s.heap.size ≤ q) q := fun q h => h
  have hS : va_S (fun q : Nat => s.heap.size ≤ q) s.heap s.heap [] := va_S.rf
  have hP : va_P (gD G) vwCl [] s.heap := fun k q h => by simp at h
  have hD : va_D (fun q : Nat => s.heap.size ≤ q) [] := ⟨fun i j p q h => by simp at h, fun k q h => by simp at h⟩
  have hl := lv_entry ([.ref b]) (n := 4) (Nat.le_of_ble_eq_true rfl)
  rw [lg_entry_eq]
  generalize (lg_sl ([.ref b]) ++ List.replicate (4 - (lg_sl ([.ref b])).length) Slot.unset).toArray = ls at hl ⊢
  have hl : lv_has ls 4 [(0, .ref b)] := hl
  refine n_new (ci := 4) (fs := [.null, .null, .null, .null, .int 0, .int 0, .int 0, .int 0]) hC uW4 tyX4 tyX4_ok mK_L_7 mB_X4 mN_X4 hK hP hD hS hA rfl df4 (Nat.le_of_ble_eq_true rfl) (Nat.le_of_ble_eq_true rfl) dL_law_0 (fun a0 H hP hD hS => ?_)
  have hP : va_P (gD G) vwCl [(a0, .inr (4, [.null, .null, .null, .null, .int 0, .int 0, .int 0, .int 0]))] H := hP
  have hD : va_D (fun q : Nat => s.heap.size ≤ q) [(a0, .inr (4, [.null, .null, .null, .null, .int 0, .int 0, .int 0, .int 0]))] := hD
  refine W.widen (k := 1) (n := 8) (by omega) (by omega) ?_
  refine lv_dup hx hb dL_law_3 rfl ?_
  refine n_callI (wc := [(a0, .inr (4, [.null, .null, .null, .null, .int 0, .int 0, .int 0, .int 0]))]) (wr := []) (As := []) (rest := [.ref a0]) hC hK hE hP hD hS hA [0] [] rfl rfl rfl rfl (by decide) rfl (g_X4_init l G a0) mw_X4_init rfl mI_X4_init mM_L_9 ⟨(Nat.le_of_ble_eq_true rfl), (Nat.le_of_ble_eq_true rfl)⟩ ⟨(Nat.le_of_ble_eq_true rfl), (Nat.le_of_ble_eq_true rfl)⟩ rfl rfl hl.1 (lv_room (Nat.le_of_ble_eq_true rfl)) dL_law_4 (fun w1 H locs hw hP hD hS => ?_)
  obtain ⟨u1, u2, u30, u31, u32, u4, u5, u6, u7, u8, rfl⟩ := hw
  have hP : va_P (gD G) vwCl [(a0, .inr (4, [.ref u1, .ref u2, .ref u4, .ref u5, .int 0, .int 0, .int 0, .int 1])), (u1, .inr (2, [.int 0, .int 0, .int (-1)])), (u2, .inl (gR G, 3, .inr (.inr (.inr (.inr (va_up (va_up (va_up (fun _ => none) 0 (some u30)) 1 (some u31)) 2 (some u32))))))), (u30, .inr (1, [.int 8, .ref u1, .int 0, .int 0, .int 0, .int (-1), .null, .int 0, .int 0])), (u31, .inr (1, [.int 16, .ref u1, .int 0, .int 0, .int 0, .int (-1), .null, .int 0, .int 0])), (u32, .inr (1, [.int 24, .ref u1, .int 0, .int 0, .int 0, .int (-1), .null, .int 0, .int 0])), (u4, .inl (gT G, 12, .inr (.inr (.inr (.inr (fun _ => none)))))), (u5, .inr (0, [.ref u6, .ref u7, .ref u8, .int 0])), (u6, .inl (gI G, 32, .inl (fun _ => 0))), (u7, .inl (gI G, 32, .inl (fun _ => 0))), (u8, .inl (gI G, 32, .inl (fun _ => 0)))] H := hP
  have hD : va_D (fun q : Nat => s.heap.size ≤ q) [(a0, .inr (4, [.ref u1, .ref u2, .ref u4, .ref u5, .int 0, .int 0, .int 0, .int 1])), (u1, .inr (2, [.int 0, .int 0, .int (-1)])), (u2, .inl (gR G, 3, .inr (.inr (.inr (.inr (va_up (va_up (va_up (fun _ => none) 0 (some u30)) 1 (some u31)) 2 (some u32))))))), (u30, .inr (1, [.int 8, .ref u1, .int 0, .int 0, .int 0, .int (-1), .null, .int 0, .int 0])), (u31, .inr (1, [.int 16, .ref u1, .int 0, .int 0, .int 0, .int (-1), .null, .int 0, .int 0])), (u32, .inr (1, [.int 24, .ref u1, .int 0, .int 0, .int 0, .int (-1), .null, .int 0, .int 0])), (u4, .inl (gT G, 12, .inr (.inr (.inr (.inr (fun _ => none)))))), (u5, .inr (0, [.ref u6, .ref u7, .ref u8, .int 0])), (u6, .inl (gI G, 32, .inl (fun _ => 0))), (u7, .inl (gI G, 32, .inl (fun _ => 0))), (u8, .inl (gI G, 32, .inl (fun _ => 0)))] := hD
  refine W.widen (k := 11) (n := 153) (by omega) (by omega) ?_
  refine lv_astore_n (lv' := [(1, .ref a0), (0, .ref b)]) hx hb dL_law_7 rfl hl (by decide) rfl (fun ls hl => ?_)
  refine n_new (ci := 5) (fs := [.int 0, .null, .null, .null, .null, .null, .null, .null, .null, .null, .null, .null, .null, .null, .null, .null, .null, .null, .null, .null, .int 0, .int 0, .int 0, .int 0, .int 0, .int 0, .int 0, .int 0, .int 0, .int 0, .int 0]) hC uW5 tyX5 tyX5_ok mK_L_10 mB_X5 mN_X5 hK hP hD hS hA rfl df5 (Nat.le_of_ble_eq_true rfl) (Nat.le_of_ble_eq_true rfl) dL_law_8 (fun b0 H hP hD hS => ?_)
  have hP : va_P (gD G) vwCl [(a0, .inr (4, [.ref u1, .ref u2, .ref u4, .ref u5, .int 0, .int 0, .int 0, .int 1])), (u1, .inr (2, [.int 0, .int 0, .int (-1)])), (u2, .inl (gR G, 3, .inr (.inr (.inr (.inr (va_up (va_up (va_up (fun _ => none) 0 (some u30)) 1 (some u31)) 2 (some u32))))))), (u30, .inr (1, [.int 8, .ref u1, .int 0, .int 0, .int 0, .int (-1), .null, .int 0, .int 0])), (u31, .inr (1, [.int 16, .ref u1, .int 0, .int 0, .int 0, .int (-1), .null, .int 0, .int 0])), (u32, .inr (1, [.int 24, .ref u1, .int 0, .int 0, .int 0, .int (-1), .null, .int 0, .int 0])), (u4, .inl (gT G, 12, .inr (.inr (.inr (.inr (fun _ => none)))))), (u5, .inr (0, [.ref u6, .ref u7, .ref u8, .int 0])), (u6, .inl (gI G, 32, .inl (fun _ => 0))), (u7, .inl (gI G, 32, .inl (fun _ => 0))), (u8, .inl (gI G, 32, .inl (fun _ => 0))), (b0, .inr (5, [.int 0, .null, .null, .null, .null, .null, .null, .null, .null, .null, .null, .null, .null, .null, .null, .null, .null, .null, .null, .null, .int 0, .int 0, .int 0, .int 0, .int 0, .int 0, .int 0, .int 0, .int 0, .int 0, .int 0]))] H := hP
  have hD : va_D (fun q : Nat => s.heap.size ≤ q) [(a0, .inr (4, [.ref u1, .ref u2, .ref u4, .ref u5, .int 0, .int 0, .int 0, .int 1])), (u1, .inr (2, [.int 0, .int 0, .int (-1)])), (u2, .inl (gR G, 3, .inr (.inr (.inr (.inr (va_up (va_up (va_up (fun _ => none) 0 (some u30)) 1 (some u31)) 2 (some u32))))))), (u30, .inr (1, [.int 8, .ref u1, .int 0, .int 0, .int 0, .int (-1), .null, .int 0, .int 0])), (u31, .inr (1, [.int 16, .ref u1, .int 0, .int 0, .int 0, .int (-1), .null, .int 0, .int 0])), (u32, .inr (1, [.int 24, .ref u1, .int 0, .int 0, .int 0, .int (-1), .null, .int 0, .int 0])), (u4, .inl (gT G, 12, .inr (.inr (.inr (.inr (fun _ => none)))))), (u5, .inr (0, [.ref u6, .ref u7, .ref u8, .int 0])), (u6, .inl (gI G, 32, .inl (fun _ => 0))), (u7, .inl (gI G, 32, .inl (fun _ => 0))), (u8, .inl (gI G, 32, .inl (fun _ => 0))), (b0, .inr (5, [.int 0, .null, .null, .null, .null, .null, .null, .null, .null, .null, .null, .null, .null, .null, .null, .null, .null, .null, .null, .null, .int 0, .int 0, .int 0, .int 0, .int 0, .int 0, .int 0, .int 0, .int 0, .int 0, .int 0]))] := hD
  refine W.widen (k := 12) (n := 184) (by omega) (by omega) ?_
  refine lv_dup hx hb dL_law_11 rfl ?_
  refine n_callI (wc := [(b0, .inr (5, [.int 0, .null, .null, .null, .null, .null, .null, .null, .null, .null, .null, .null, .null, .null, .null, .null, .null, .null, .null, .null, .int 0, .int 0, .int 0, .int 0, .int 0, .int 0, .int 0, .int 0, .int 0, .int 0, .int 0]))]) (wr := [(a0, .inr (4, [.ref u1, .ref u2, .ref u4, .ref u5, .int 0, .int 0, .int 0, .int 1])), (u1, .inr (2, [.int 0, .int 0, .int (-1)])), (u2, .inl (gR G, 3, .inr (.inr (.inr (.inr (va_up (va_up (va_up (fun _ => none) 0 (some u30)) 1 (some u31)) 2 (some u32))))))), (u30, .inr (1, [.int 8, .ref u1, .int 0, .int 0, .int 0, .int (-1), .null, .int 0, .int 0])), (u31, .inr (1, [.int 16, .ref u1, .int 0, .int 0, .int 0, .int (-1), .null, .int 0, .int 0])), (u32, .inr (1, [.int 24, .ref u1, .int 0, .int 0, .int 0, .int (-1), .null, .int 0, .int 0])), (u4, .inl (gT G, 12, .inr (.inr (.inr (.inr (fun _ => none)))))), (u5, .inr (0, [.ref u6, .ref u7, .ref u8, .int 0])), (u6, .inl (gI G, 32, .inl (fun _ => 0))), (u7, .inl (gI G, 32, .inl (fun _ => 0))), (u8, .inl (gI G, 32, .inl (fun _ => 0)))]) (As := []) (rest := [.ref b0]) hC hK hE hP hD hS hA [11] [0, 1, 2, 3, 4, 5, 6, 7, 8, 9, 10] rfl rfl rfl rfl (by decide) rfl (g_X5_init l G b0) mw_X5_init rfl mI_X5_init mM_L_12 ⟨(Nat.le_of_ble_eq_true rfl), (Nat.le_of_ble_eq_true rfl)⟩ ⟨(Nat.le_of_ble_eq_true rfl), (Nat.le_of_ble_eq_true rfl)⟩ rfl rfl hl.1 (lv_room (Nat.le_of_ble_eq_true rfl)) dL_law_12 (fun w1 H locs hw hP hD hS => ?_)
  obtain ⟨q1, q2, q3, q4, q5, q6, q7, q8, q9, q10, q11, q12, q13, q14, q15, q16, q17, q18, q19, rfl⟩ := hw
  have hP : va_P (gD G) vwCl [(a0, .inr (4, [.ref u1, .ref u2, .ref u4, .ref u5, .int 0, .int 0, .int 0, .int 1])), (u1, .inr (2, [.int 0, .int 0, .int (-1)])), (u2, .inl (gR G, 3, .inr (.inr (.inr (.inr (va_up (va_up (va_up (fun _ => none) 0 (some u30)) 1 (some u31)) 2 (some u32))))))), (u30, .inr (1, [.int 8, .ref u1, .int 0, .int 0, .int 0, .int (-1), .null, .int 0, .int 0])), (u31, .inr (1, [.int 16, .ref u1, .int 0, .int 0, .int 0, .int (-1), .null, .int 0, .int 0])), (u32, .inr (1, [.int 24, .ref u1, .int 0, .int 0, .int 0, .int (-1), .null, .int 0, .int 0])), (u4, .inl (gT G, 12, .inr (.inr (.inr (.inr (fun _ => none)))))), (u5, .inr (0, [.ref u6, .ref u7, .ref u8, .int 0])), (u6, .inl (gI G, 32, .inl (fun _ => 0))), (u7, .inl (gI G, 32, .inl (fun _ => 0))), (u8, .inl (gI G, 32, .inl (fun _ => 0))), (b0, .inr (5, [.int 0, .ref q1, .ref q2, .ref q3, .ref q4, .ref q5, .ref q6, .ref q7, .ref q8, .ref q9, .ref q10, .ref q11, .ref q12, .ref q13, .ref q14, .ref q15, .ref q16, .ref q17, .ref q18, .ref q19, .int 0, .int 0, .int 0, .int 0, .int 1, .int 0, .int 0, .int 0, .int 0, .int (-1), .int 0])), (q1, .inl (gI G, 12, .inl (fun _ => 0))), (q2, .inl (gI G, 12, .inl (fun _ => 0))), (q3, .inl (gI G, 12, .inl (fun _ => 0))), (q4, .inl (gI G, 12, .inl (fun _ => 0))), (q5, .inl (gI G, 1200, .inl (fun _ => 0))), (q6, .inl (gI G, 1200, .inl (fun _ => 0))), (q7, .inl (gI G, 1200, .inl (fun _ => 0))), (q8, .inl (gZ G, 1200, .inl (fun _ => 0))), (q9, .inl (gI G, 12000, .inl (fun _ => 0))), (q10, .inl (gZ G, 3, .inl (fun _ => 0))), (q11, .inl (gZ G, 3, .inl (fun _ => 0))), (q12, .inl (gI G, 3, .inl (upd (upd (upd (fun _ => 0) 0 (-1)) 1 (-1)) 2 (-1)))), (q13, .inl (gI G, 3, .inl (fun _ => 0))), (q14, .inl (gI G, 3, .inl (fun _ => 0))), (q15, .inl (gI G, 2, .inl (fun _ => 0))), (q16, .inl (gI G, 2, .inl (fun _ => 0))), (q17, .inl (gI G, 2, .inl (fun _ => 0))), (q18, .inl (gZ G, 2, .inl (fun _ => 0))), (q19, .inl (gI G, 2, .inl (fun _ => 0)))] H := hP
  have hD : va_D (fun q : Nat => s.heap.size ≤ q) [(a0, .inr (4, [.ref u1, .ref u2, .ref u4, .ref u5, .int 0, .int 0, .int 0, .int 1])), (u1, .inr (2, [.int 0, .int 0, .int (-1)])), (u2, .inl (gR G, 3, .inr (.inr (.inr (.inr (va_up (va_up (va_up (fun _ => none) 0 (some u30)) 1 (some u31)) 2 (some u32))))))), (u30, .inr (1, [.int 8, .ref u1, .int 0, .int 0, .int 0, .int (-1), .null, .int 0, .int 0])), (u31, .inr (1, [.int 16, .ref u1, .int 0, .int 0, .int 0, .int (-1), .null, .int 0, .int 0])), (u32, .inr (1, [.int 24, .ref u1, .int 0, .int 0, .int 0, .int (-1), .null, .int 0, .int 0])), (u4, .inl (gT G, 12, .inr (.inr (.inr (.inr (fun _ => none)))))), (u5, .inr (0, [.ref u6, .ref u7, .ref u8, .int 0])), (u6, .inl (gI G, 32, .inl (fun _ => 0))), (u7, .inl (gI G, 32, .inl (fun _ => 0))), (u8, .inl (gI G, 32, .inl (fun _ => 0))), (b0, .inr (5, [.int 0, .ref q1, .ref q2, .ref q3, .ref q4, .ref q5, .ref q6, .ref q7, .ref q8, .ref q9, .ref q10, .ref q11, .ref q12, .ref q13, .ref q14, .ref q15, .ref q16, .ref q17, .ref q18, .ref q19, .int 0, .int 0, .int 0, .int 0, .int 1, .int 0, .int 0, .int 0, .int 0, .int (-1), .int 0])), (q1, .inl (gI G, 12, .inl (fun _ => 0))), (q2, .inl (gI G, 12, .inl (fun _ => 0))), (q3, .inl (gI G, 12, .inl (fun _ => 0))), (q4, .inl (gI G, 12, .inl (fun _ => 0))), (q5, .inl (gI G, 1200, .inl (fun _ => 0))), (q6, .inl (gI G, 1200, .inl (fun _ => 0))), (q7, .inl (gI G, 1200, .inl (fun _ => 0))), (q8, .inl (gZ G, 1200, .inl (fun _ => 0))), (q9, .inl (gI G, 12000, .inl (fun _ => 0))), (q10, .inl (gZ G, 3, .inl (fun _ => 0))), (q11, .inl (gZ G, 3, .inl (fun _ => 0))), (q12, .inl (gI G, 3, .inl (upd (upd (upd (fun _ => 0) 0 (-1)) 1 (-1)) 2 (-1)))), (q13, .inl (gI G, 3, .inl (fun _ => 0))), (q14, .inl (gI G, 3, .inl (fun _ => 0))), (q15, .inl (gI G, 2, .inl (fun _ => 0))), (q16, .inl (gI G, 2, .inl (fun _ => 0))), (q17, .inl (gI G, 2, .inl (fun _ => 0))), (q18, .inl (gZ G, 2, .inl (fun _ => 0))), (q19, .inl (gI G, 2, .inl (fun _ => 0)))] := hD
  refine W.widen (k := 31) (n := 17057) (by omega) (by omega) ?_
  refine lv_astore_n (lv' := [(2, .ref b0), (1, .ref a0), (0, .ref b)]) hx hb dL_law_15 rfl hl (by decide) rfl (fun ls hl => ?_)
  refine lv_iconst (v := 0) hx hb dL_law_16 (by decide) ?_
  refine lv_istore_n (lv' := [(3, .int 0), (2, .ref b0), (1, .ref a0), (0, .ref b)]) hx hb dL_law_17 rfl hl (by decide) rfl (fun ls hl => ?_)
  subst hG
  obtain ⟨hP, hD⟩ := start_P (D := D) (cI := cI) (cZ := cZ) (cR := cR) (cT := cT) hP hD
  exact law_loop l hL C00 hC hE (L + 1) 0 31 17057 (by omega) (by omega) (by omega) (by omega) (D, ((cI, cZ), (cR, cT)), ad0 a0 u1 u2 u30 u31 u32 u4 u5 u6 u7 u8 b0 q1 q2 q3 q4 q5 q6 q7 q8 q9 q10 q11 q12 q13 q14 q15 q16 q17 q18 q19, 0) cS0 mS0 H locs ls ⟨hKs _ _, hP, hD, hS, hA⟩ RR_0 (Nat.zero_le _) (lv_sub hl [3, 2, 1, 0] rfl)
set_option maxHeartbeats 4000000 in
theorem lw_walk (l : Launch) (hflags : l.flags = flags0) (b : Addr) (xs : List Int32) : MetFree l x (headSpec (Jvm.Cond.code x code maxLocals ret :: tables_1) room_1) (lw_P b xs) (fun _ _ _ _ _ => True) lw_Q := by
  refine MetFree.of_bodyS (code := code) (maxLocals := maxLocals) (ret := ret) (by decide) ?_ ?_
  · intro args s m h hn
    obtain ⟨meth, c, h1, h2, h3, h4, h5, h6, -, -⟩ := Cond.code_spec hn (atoms_spec (ws := Jvm.Cond.code x code maxLocals ret :: tables_1) h _ List.mem_cons_self)
    exact ⟨meth, c, h1, h2, h3, h4, h5, h6⟩
  · intro p e s m args below meth c s₁ B hml0 hP _
    obtain ⟨rfl, hx, hbd, hgv⟩ := hP
    obtain ⟨scr, harrAt, hlist, hof, hsmall⟩ := hx
    obtain ⟨hcb, hkn, -, -⟩ := State.arrayAt?_spec harrAt
    have hown : s.vm.findClass R_law = some m.cls := findClass_of_methodNamed B.named
    have hts0 : ∀ c ∈ (Jvm.Cond.code x code maxLocals ret :: tables_1), c.before #[Value.ref b] s = true := atoms_spec (ws := Jvm.Cond.code x code maxLocals ret :: tables_1) B.pre
    have hts : ∀ w ∈ lw_tbl, w.before #[Value.ref b] s = true := k2_hts_sels lw_privs (fun w hw => hts0 w (List.mem_cons_of_mem _ hw)) lw_privs_ok
    have hml : c.maxLocals = 4 := B.maxLocals_eq (hts0 _ List.mem_cons_self)
    have X₀ : Stand p l e room_1 s m #[Value.ref b] below meth c s₁ [] 0 0 := Stand.of_body B
    have hh0 : s₁.heap = s.heap := by rw [B.state]; rfl
    have hsz : scr.slots.size = xs.length := by rw [← Array.length_toList, hlist, List.length_map]
    have hval : ∀ j : Nat, j < xs.length → scr.slots[j]? = some (.int (xs.getD j 0)) := fun j hj => by
      rw [← Array.getElem?_toList, hlist]
      simp [hj]
    have hbl : b < s.heap.size := (Array.getElem?_eq_some_iff.mp hcb).1
    have hX : va_X b xs.length (fun j => xs.getD j 0) s s.heap := ⟨scr, hcb, hof, hkn, hsz, hval⟩
    have K : W p l e room_1 s m #[Value.ref b] below meth c s₁.heap [] 0 0 (lw_Z below #[Value.ref b] s) (entryFrame m ([Value.ref b] : List Value).toArray 4) := by
      rw [hh0]
      exact whole_start l hflags hbd ⟨B.exec, B.bytes, B.returns, hml, hown, hts, hX, hbl, B.notSynchronized, hgv⟩
    obtain ⟨t, a1, o, b1, b2, b3⟩ := K s₁ rfl X₀
    exact ⟨t, o, a1, b1, b2, b3⟩
theorem lw_pre_spec {args : Array Value} {s : State} (h : (Jvm.Cond.and given_1 narrow_1).before args s = true) (hr : rest_1_c.before args s = true) : ∃ (b : Addr) (xs : List Int32), lw_P b xs args s := by
  have hs := flat_of_before _ h
  have hq := flat_of_before _ hr
  have hc : (Cond.count 1).before args s = true := hs _ (by decide +kernel)
  have harr : (Cond.arrayOf (.arg 0) .int).before args s = true := hs _ (by decide +kernel)
  have hle : (Cond.le (.length (.arg 0)) (.int 240)).before args s = true := hs _ (by decide +kernel)
  have hlen : (Cond.isInt (.length (.arg 0))).before args s = true := hq _ (by decide +kernel)
  have hall : (Cond.all (.arg 0) (.isInt (.elem (.arg 0) (.index 0)))).before args s = true := hq _ (by decide +kernel)
  obtain ⟨b, xs, hb, hx⟩ := State.ints_of_pre rfl harr hlen hall
  have hsm : xs.length < 2 ^ 31 := hx.choose_spec.2.2.2
  have hev : (Term.length (.arg 0)).eval args s none [] s = some (.int xs.length.toInt32) := hx.length_eval hb
  have hv := Cond.le_ints hev (show (Term.int 240).eval args s none [] s = some (.int 240) from rfl)
  have hd : xs.length.toInt32 ≤ 240 := by
    simpa [Cond.before, Cond.holds, hv] using hle
  have hN : xs.length ≤ 240 := (Int32.ofNat_le_ofNat hsm (by decide)).mp (show Int32.ofNat xs.length ≤ Int32.ofNat 240 from hd)
  exact ⟨b, xs, Cond.one_arg hc (show args[0]? = some (.ref b) from hb), hx, hN, h⟩
theorem lw_comes (l : Launch) (hflags : l.flags = flags0) : Comes l x (Jvm.Cond.code x code maxLocals ret :: tables_1) room_1 (fun tb e args s => Calls_1 tb e args s ∧ rest_1 tb e args s ∧ Pre_1 tb e args s)
    (fun _ _ args s o t => lw_Q args s o t) := by
  intro p e ha hc hk s m args below hf hfit hheap happ hpre
  obtain ⟨b, xs, hP⟩ := lw_pre_spec hpre.2.2 hpre.2.1
  obtain ⟨k, o, h1, h2, h3, hQ⟩ := lw_walk l hflags b xs p e ha hc hk s m args below hf ((Spec.applies_iff_loose hf).mp happ).1 hP trivial
  exact ⟨k, o, h1, h2, h3, hQ⟩
theorem lw_frame {s t : State} {o : Outcome} {args : Array Value} (h : Framed s o t [] 600000 7302250) :
    Framed s o t (fieldLocs frame_1_writes args s ++ arrayLocs frame_1_arrays args s ++ staticLocs frame_1_statics s) 600000 7302250 := h
theorem lw_limb (L : Cond) (hL : ∀ (args : Array Value) (s t : State), L.after args s (.returned (some (.int 1))) t = true) :
    ArmFor flags0 classFile x code maxLocals ret World_1 tables_1 room_1 Calls_1 rest_1 Pre_1
      (fun tb e a s o t => postC L tb e a s o t ∧ Framed s o t (fieldLocs frame_1_writes a s ++ arrayLocs frame_1_arrays a s ++ staticLocs frame_1_statics s) 600000 7302250) := by
  intro l hflags _ _ p e ha hc hk s m args below hf hfit hheap happ hpre
  obtain ⟨k, o, h1, h2, h3, rfl, hF⟩ := lw_comes l hflags p e ha hc hk s m args below hf hfit hheap happ hpre
  exact ⟨k, _, h1, h2, h3, hL args s _, lw_frame hF⟩
theorem i_vc : Claimed_1_1 ∧ Claimed_1_2 := ⟨lw_limb limb_1_1 (fun args s t => by simp [limb_1_1, Cond.after, Cond.holds, Cond.value]), lw_limb limb_1_2 (fun args s t => Cond.after_iff.mpr (by
  first | (rw [show limb_1_2 = Cond.eq .result (.int 1) from rfl, Cond.eq_ints (x := 1) (y := 1) rfl rfl]; simp; done) | (simp [limb_1_2, Cond.value, Term.eval]; done)))⟩
