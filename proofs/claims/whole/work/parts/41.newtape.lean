/-! ===== a new tape: the world grows ===== -/
def zx (G : GG) (q9 q5 q6 q7 q8 q10 q11 : Nat) (f i : Nat) : Nat := if i = zn G then (match f with
  | 9 => q9 | 5 => q5 | 6 => q6 | 7 => q7 | 8 => q8 | 10 => q10 | 11 => q11
  | _ => zad G f i) else zad G f i
def Gx (G : GG) (q9 q5 q6 q7 q8 q10 q11 : Nat) : GG := (G.1, G.2.1, zx G q9 q5 q6 q7 q8 q10 q11, zn G + 1)
/-- the class's numbers with a blank tape n, its home x -/
def Cx (C : CS) (n x : Nat) : CS := ((fun f i k => if f = 9 ∧ i = n then 0 else cF C f i k), (fun f i k => if f = 9 ∧ i = n then x else if f = 5 ∧ i = n then 0 else cN C f i k), (fun f i k => if i = n then 0 else cB C f i k), C.2.2.2)
theorem Cx_F {C : CS} {n x f i k : Nat} : cF (Cx C n x) f i k = if f = 9 ∧ i = n then 0 else cF C f i k := rfl
theorem Cx_N {C : CS} {n x f i k : Nat} : cN (Cx C n x) f i k = if f = 9 ∧ i = n then x else if f = 5 ∧ i = n then 0 else cN C f i k := rfl
theorem Cx_B {C : CS} {n x f i k : Nat} : cB (Cx C n x) f i k = if i = n then 0 else cB C f i k := rfl
theorem Cx_M {C : CS} {n x : Nat} : cM (Cx C n x) = cM C := rfl
section WT
variable {G : GG} {C : CS} {M : MS} {q9 q5 q6 q7 q8 q10 q11 x : Nat}
theorem zx_o {f i : Nat} (h : i ≠ zn G ∨ f < 5 ∨ 11 < f) : zad (Gx G q9 q5 q6 q7 q8 q10 q11) f i = zad G f i := by
  show zx G q9 q5 q6 q7 q8 q10 q11 f i = _
  unfold zx
  split
  · rename_i e
    have hf : f < 5 ∨ 11 < f := by omega
    split <;> first | omega | rfl
  · rfl
theorem enc_o {f i : Nat} (hM : ∀ d, cM C d = none) (hf : f ≠ 0 ∧ f ≠ 4) (h : i ≠ zn G ∨ f < 5 ∨ 11 < f) : enc (Gx G q9 q5 q6 q7 q8 q10 q11) (Cx C (zn G) x) M f i = enc G C M f i := by
  have eF : ∀ f i, (i ≠ zn G ∨ f ≠ 9) → cF (Cx C (zn G) x) f i = cF C f i := fun f i q => by
    funext k; rw [Cx_F, if_neg (by omega)]
  have eN : ∀ f i, (i ≠ zn G ∨ (f ≠ 9 ∧ f ≠ 5)) → cN (Cx C (zn G) x) f i = cN C f i := fun f i q => by
    funext k; rw [Cx_N, if_neg (by omega), if_neg (by omega)]
  have eB : ∀ f i, i ≠ zn G → cB (Cx C (zn G) x) f i = cB C f i := fun f i q => by
    funext k; rw [Cx_B, if_neg q]
  have z3 : ∀ j, zad (Gx G q9 q5 q6 q7 q8 q10 q11) 3 j = zad G 3 j := fun j => zx_o (by omega)
  have z13 : ∀ j, zad (Gx G q9 q5 q6 q7 q8 q10 q11) 13 j = zad G 13 j := fun j => zx_o (by omega)
  have z1 : zad (Gx G q9 q5 q6 q7 q8 q10 q11) 1 0 = zad G 1 0 := zx_o (by omega)
  unfold enc enc0
  split
  · exact absurd rfl hf.1
  · rw [eF _ _ (by omega)]
  · show (Sum.inl (gR G, 3, _) : va_E) = _
    unfold rowR; simp only [z3]
  · rw [eF _ _ (by omega), eN _ _ (by omega), Cx_M, hM]
    unfold fsD; rw [z1]; rfl
  · exact absurd rfl hf.2
  · rw [eN _ _ (by omega)]
    unfold fsB; rw [zx_o (by omega), zx_o (by omega), zx_o (by omega)]
  · rw [eB _ _ (by omega)]; rfl
  · rw [eB _ _ (by omega)]; rfl
  · rw [eB _ _ (by omega)]; rfl
  · rw [eF _ _ (by omega), eN _ _ (by omega)]
    unfold fsT; rw [zx_o (by omega), zx_o (by omega), zx_o (by omega)]
  · rw [eB _ _ (by omega)]; rfl
  · rw [eB _ _ (by omega)]; rfl
  · unfold fsM; simp only [z13]
  · rfl
  · rfl
/-- the new tape's cells -/
def w7 (G : GG) (x q9 q5 q6 q7 q8 q10 q11 : Nat) : va_W := [(q9, .inr (3, [.int (nI x), .ref q5, .ref q10, .ref q11, .int 0, .int 0])), (q5, .inr (0, [.ref q6, .ref q7, .ref q8, .int 0])), (q6, .inl (gI G, 100, .inl (fun _ => 0))), (q7, .inl (gI G, 100, .inl (fun _ => 0))), (q8, .inl (gI G, 100, .inl (fun _ => 0))), (q10, .inl (gZ G, 100, .inl (fun _ => 0))), (q11, .inl (gZ G, 100, .inl (fun _ => 0)))]
def LLb : List (Nat × Nat) := [(0, 0), (1, 0), (2, 0), (3, 0), (3, 1), (3, 2), (4, 0), (5, 12), (6, 12), (7, 12), (8, 12), (12, 0), (13, 1), (13, 2), (13, 3), (13, 4), (13, 5), (13, 6), (13, 7), (13, 8), (13, 9), (13, 10), (13, 11), (13, 12), (13, 13), (13, 14), (13, 15), (13, 16), (13, 17), (13, 18), (13, 19)]
def LLt (n : Nat) : List (Nat × Nat) := (List.range n).flatMap (fun t => [(9, t), (5, t), (6, t), (7, t), (8, t), (10, t), (11, t)])
theorem LL_bt (n : Nat) : LL n = LLb ++ LLt n := rfl
theorem LLt_succ (n : Nat) : LLt (n + 1) = LLt n ++ [(9, n), (5, n), (6, n), (7, n), (8, n), (10, n), (11, n)] := by
  unfold LLt
  rw [List.range_succ, List.flatMap_append]
  simp
theorem set2 {α : Type} (f f' : Nat × Nat → α) (tl : List α) (h : ∀ q ∈ LLb, q ≠ (0, 0) → q ≠ (4, 0) → f' q = f q) : LLb.map f' ++ tl = ((LLb.map f ++ tl).set 6 (f' (4, 0))).set 0 (f' (0, 0)) := by
  have e : LLb.map f' = ((LLb.map f).set 6 (f' (4, 0))).set 0 (f' (0, 0)) := by
    apply List.ext_getElem?
    intro i
    by_cases i0 : i = 0
    · subst i0; rfl
    · rw [List.getElem?_set_ne (Ne.symm i0)]
      by_cases i6 : i = 6
      · subst i6; rfl
      · rw [List.getElem?_set_ne (Ne.symm i6), List.getElem?_map, List.getElem?_map]
        cases hb : LLb[i]? with
        | none => rfl
        | some q =>
          have hm := List.mem_of_getElem? hb
          have hq : ∀ i, i < 31 → i ≠ 0 → i ≠ 6 → ∀ q, LLb[i]? = some q → q ≠ (0, 0) ∧ q ≠ (4, 0) := by
            intro i hi h0 h6 q hq
            have ha : (List.range 31).all (fun i => i == 0 || i == 6 || (LLb[i]? != some (0, 0) && LLb[i]? != some (4, 0))) = true := by decide
            have hb := List.all_eq_true.mp ha i (List.mem_range.mpr hi)
            simp [h0, h6] at hb
            exact ⟨fun e => hb.1 (by rw [hq, e]), fun e => hb.2 (by rw [hq, e])⟩
          have hl : i < 31 := (List.getElem?_eq_some_iff.mp hb).1
          obtain ⟨n0, n4⟩ := hq i hl i0 i6 q hb
          rw [Option.map_some, Option.map_some, h q hm n0 n4]
  rw [e]
  rfl
theorem w_tape (hM : ∀ d, cM C d = none) (hn : zn G < 12) :
    ((world G C M ++ w7 G x q9 q5 q6 q7 q8 q10 q11).set 6 (zad G 4 0, .inl (gT G, 12, .inr (.inr (.inr (.inr (va_up (rowT G (zn G)) (zn G) (some q9)))))))).set 0 (zad G 0 0, .inr (4, (fsV G (cF C 0 0) (zn G)).set 4 (.int (nI (zn G + 1))))) = world (Gx G q9 q5 q6 q7 q8 q10 q11) (Cx C (zn G) x) M := by
  obtain ⟨f', hf'⟩ : ∃ f' : Nat × Nat → Nat × va_E, f' = fun q => (zad (Gx G q9 q5 q6 q7 q8 q10 q11) q.1 q.2, enc (Gx G q9 q5 q6 q7 q8 q10 q11) (Cx C (zn G) x) M q.1 q.2) := ⟨_, rfl⟩
  obtain ⟨f, hf⟩ : ∃ f : Nat × Nat → Nat × va_E, f = fun q => (zad G q.1 q.2, enc G C M q.1 q.2) := ⟨_, rfl⟩
  have ew' : world (Gx G q9 q5 q6 q7 q8 q10 q11) (Cx C (zn G) x) M = (LL (zn G + 1)).map f' := by rw [hf']; rfl
  have ew : world G C M = (LL (zn G)).map f := by rw [hf]; rfl
  rw [ew', ew, LL_bt, LL_bt, LLt_succ, List.map_append, List.map_append, List.map_append, List.append_assoc]
  have ht : (LLt (zn G)).map f' = (LLt (zn G)).map f := by
    apply List.map_congr_left
    intro q hq
    obtain ⟨t, ht, hq⟩ := List.mem_flatMap.mp hq
    have htn := List.mem_range.mp ht
    have hi : q.2 = t ∧ q.1 ≠ 0 ∧ q.1 ≠ 4 := by
      simp at hq
      rcases hq with rfl | rfl | rfl | rfl | rfl | rfl | rfl <;> exact ⟨rfl, by simp, by simp⟩
    rw [hf', hf]
    show (zad (Gx G q9 q5 q6 q7 q8 q10 q11) q.1 q.2, enc (Gx G q9 q5 q6 q7 q8 q10 q11) (Cx C (zn G) x) M q.1 q.2) = (zad G q.1 q.2, enc G C M q.1 q.2)
    rw [zx_o (by omega), enc_o hM hi.2 (by omega)]
  have h7 : [(9, zn G), (5, zn G), (6, zn G), (7, zn G), (8, zn G), (10, zn G), (11, zn G)].map f' = w7 G x q9 q5 q6 q7 q8 q10 q11 := by
    have zz : ∀ f, zad (Gx G q9 q5 q6 q7 q8 q10 q11) f (zn G) = (match f with
      | 9 => q9 | 5 => q5 | 6 => q6 | 7 => q7 | 8 => q8 | 10 => q10 | 11 => q11
      | _ => zad G f (zn G)) := fun f => if_pos rfl
    have hcap : cap (zn G) = 100 := cap_t hn
    have b0 : ∀ f, cB (Cx C (zn G) x) f (zn G) = fun _ => 0 := fun f => by funext k; rw [Cx_B, if_pos rfl]
    have n9 : cN (Cx C (zn G) x) 9 (zn G) 0 = x := by rw [Cx_N, if_pos ⟨rfl, rfl⟩]
    have n5 : cN (Cx C (zn G) x) 5 (zn G) 3 = 0 := by rw [Cx_N, if_neg (by omega), if_pos ⟨rfl, rfl⟩]
    have f4 : cF (Cx C (zn G) x) 9 (zn G) 4 = 0 := by rw [Cx_F, if_pos ⟨rfl, rfl⟩]
    have f5 : cF (Cx C (zn G) x) 9 (zn G) 5 = 0 := by rw [Cx_F, if_pos ⟨rfl, rfl⟩]
    rw [hf']
    simp only [List.map_cons, List.map_nil, enc, enc0, zz, fsT, fsB, b0, n9, n5, f4, f5, hcap]
    rfl
  rw [ht, h7, ← List.append_assoc, List.append_assoc, set2 f f' _ ?_]
  · have e4 : f' (4, 0) = (zad G 4 0, .inl (gT G, 12, .inr (.inr (.inr (.inr (va_up (rowT G (zn G)) (zn G) (some q9))))))) := by
      rw [hf']
      show (zad (Gx G q9 q5 q6 q7 q8 q10 q11) 4 0, (Sum.inl (gT G, 12, .inr (.inr (.inr (.inr (rowT (Gx G q9 q5 q6 q7 q8 q10 q11) (zn G + 1)))))) : va_E)) = _
      rw [zx_o (by omega)]
      have : rowT (Gx G q9 q5 q6 q7 q8 q10 q11) (zn G + 1) = va_up (rowT G (zn G)) (zn G) (some q9) := by
        funext j
        unfold rowT va_up
        by_cases e : j = zn G
        · subst e; rw [if_pos (by omega), if_pos rfl]
          show some (zx G q9 q5 q6 q7 q8 q10 q11 9 (zn G)) = some q9
          unfold zx; rw [if_pos rfl]; rfl
        · rw [if_neg e]
          show _ = if j < zn G then some (zad G 9 j) else none
          by_cases e2 : j < zn G
          · rw [if_pos (by omega), if_pos e2, zx_o (by omega)]
          · rw [if_neg (by omega), if_neg e2]
      rw [this]
    have e0 : f' (0, 0) = (zad G 0 0, .inr (4, (fsV G (cF C 0 0) (zn G)).set 4 (.int (nI (zn G + 1))))) := by
      rw [hf']
      show (zad (Gx G q9 q5 q6 q7 q8 q10 q11) 0 0, (Sum.inr (4, fsV (Gx G q9 q5 q6 q7 q8 q10 q11) (cF (Cx C (zn G) x) 0 0) (zn G + 1)) : va_E)) = _
      have eF : cF (Cx C (zn G) x) 0 0 = cF C 0 0 := by funext k; rw [Cx_F, if_neg (by omega)]
      unfold fsV
      rw [eF, zx_o (by omega), zx_o (by omega), zx_o (by omega), zx_o (by omega), zx_o (by omega)]
      rfl
    rw [e4, e0]
  · intro q hq n0 n4
    have hqq : (q.1 ≠ 0 ∧ q.1 ≠ 4) ∧ (q.2 = 12 ∨ q.1 < 5 ∨ 11 < q.1) := by
      have : ∀ q ∈ LLb, q ≠ (0, 0) → q ≠ (4, 0) → (q.1 ≠ 0 ∧ q.1 ≠ 4) ∧ (q.2 = 12 ∨ q.1 < 5 ∨ 11 < q.1) := by decide
      exact this q hq n0 n4
    rw [hf', hf]
    show (zad (Gx G q9 q5 q6 q7 q8 q10 q11) q.1 q.2, enc (Gx G q9 q5 q6 q7 q8 q10 q11) (Cx C (zn G) x) M q.1 q.2) = (zad G q.1 q.2, enc G C M q.1 q.2)
    rw [zx_o (by omega), enc_o hM hqq.1 (by omega)]
end WT
