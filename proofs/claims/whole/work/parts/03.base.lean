/-! ===== the world: what each cell holds, by a kind and a number ===== -/
abbrev GG : Type := va_G × ((ClassId × ClassId) × (ClassId × ClassId)) × (Nat → Nat → Nat) × Nat
def gD (G : GG) : va_G := G.1
def gI (G : GG) : ClassId := G.2.1.1.1
def gZ (G : GG) : ClassId := G.2.1.1.2
def gR (G : GG) : ClassId := G.2.1.2.1
def gT (G : GG) : ClassId := G.2.1.2.2
def zad (G : GG) : Nat → Nat → Nat := G.2.2.1
/-- how many tapes there are -/
def zn (G : GG) : Nat := G.2.2.2
abbrev TYS (G : GG) : List (ClassId × FieldType) := [(gI G, .int), (gZ G, .boolean), (gR G, .object RX1), (gT G, .object RX3)]
/-- the class's state: ints of objects, small numbers of objects, rows, the tape that a drive is taken for -/
abbrev CS : Type := (Nat → Nat → Nat → Int32) × (Nat → Nat → Nat → Nat) × (Nat → Nat → Nat → Int32) × (Nat → Option Nat)
def cF (C : CS) : Nat → Nat → Nat → Int32 := C.1
def cN (C : CS) : Nat → Nat → Nat → Nat := C.2.1
def cB (C : CS) : Nat → Nat → Nat → Int32 := C.2.2.1
def cM (C : CS) : Nat → Option Nat := C.2.2.2
def up3 {α : Type} (h : Nat → Nat → Nat → α) (f i k : Nat) (v : α) : Nat → Nat → Nat → α := fun f' i' k' => if k' = k ∧ f' = f ∧ i' = i then v else h f' i' k'
def sF (C : CS) (f i k : Nat) (v : Int32) : CS := (up3 C.1 f i k v, C.2)
def sN (C : CS) (f i k : Nat) (v : Nat) : CS := (C.1, up3 C.2.1 f i k v, C.2.2)
def sB (C : CS) (f i k : Nat) (v : Int32) : CS := (C.1, C.2.1, up3 C.2.2.1 f i k v, C.2.2.2)
def sM (C : CS) (d : Nat) (v : Option Nat) : CS := (C.1, C.2.1, C.2.2.1, va_up C.2.2.2 d v)
/-- the reference's state: its ints, its rows -/
abbrev MS : Type := (Nat → Int32) × (Nat → Nat → Int32)
def mF (M : MS) : Nat → Int32 := M.1
def mA (M : MS) : Nat → Nat → Int32 := M.2
def smF (M : MS) (k : Nat) (v : Int32) : MS := (upd M.1 k v, M.2)
def smA (M : MS) (j k : Nat) (v : Int32) : MS := (M.1, va_up M.2 j (upd (M.2 j) k v))
def cap (b : Nat) : Nat := if b = 12 then 32 else 100
def mlen (j : Nat) : Nat := match j with
  | 1 => 12 | 2 => 12 | 3 => 12 | 4 => 12
  | 5 => 1200 | 6 => 1200 | 7 => 1200 | 8 => 1200 | 9 => 12000
  | 10 => 3 | 11 => 3 | 12 => 3 | 13 => 3 | 14 => 3
  | _ => 2
def mcl (G : GG) (j : Nat) : ClassId := match j with
  | 8 => gZ G | 10 => gZ G | 11 => gZ G | 18 => gZ G
  | _ => gI G
def fsV (G : GG) (F : Nat → Int32) (n : Nat) : List Value := [.ref (zad G 1 0), .ref (zad G 2 0), .ref (zad G 4 0), .ref (zad G 5 12), .int (nI n), .int (F 5), .int (F 6), .int (F 7)]
def fsE (F : Nat → Int32) : List Value := [.int (F 0), .int (F 1), .int (F 2)]
def fsD (G : GG) (F : Nat → Int32) (N : Nat → Nat) (M : Option Nat) (d : Nat) : List Value := [.int (nI (8 + 8 * d)), .ref (zad G 1 0), .int (F 2), .int (F 3), .int (F 4), .int (F 5), va_rf (M.map (zad G 9)), .int (nI (N 7)), .int (nI (N 8))]
def fsB (G : GG) (N : Nat → Nat) (b : Nat) : List Value := [.ref (zad G 6 b), .ref (zad G 7 b), .ref (zad G 8 b), .int (nI (N 3))]
def fsT (G : GG) (F : Nat → Int32) (N : Nat → Nat) (t : Nat) : List Value := [.int (nI (N 0)), .ref (zad G 5 t), .ref (zad G 10 t), .ref (zad G 11 t), .int (F 4), .int (F 5)]
def fsM (G : GG) (F : Nat → Int32) : List Value := [.int (F 0), .ref (zad G 13 1), .ref (zad G 13 2), .ref (zad G 13 3), .ref (zad G 13 4), .ref (zad G 13 5), .ref (zad G 13 6), .ref (zad G 13 7), .ref (zad G 13 8), .ref (zad G 13 9), .ref (zad G 13 10), .ref (zad G 13 11), .ref (zad G 13 12), .ref (zad G 13 13), .ref (zad G 13 14), .ref (zad G 13 15), .ref (zad G 13 16), .ref (zad G 13 17), .ref (zad G 13 18), .ref (zad G 13 19), .int (F 20), .int (F 21), .int (F 22), .int (F 23), .int (F 24), .int (F 25), .int (F 26), .int (F 27), .int (F 28), .int (F 29), .int (F 30)]
def rowR (G : GG) : Nat → Option Nat := fun j => some (zad G 3 j)
def rowT (G : GG) (n : Nat) : Nat → Option Nat := fun j => if j < n then some (zad G 9 j) else none
def enc0 (G : GG) (cF : Nat → Nat → Nat → Int32) (cN : Nat → Nat → Nat → Nat) (cB : Nat → Nat → Nat → Int32) (cM : Nat → Option Nat) (n : Nat) (mF : Nat → Int32) (mA : Nat → Nat → Int32) (f i : Nat) : va_E := match f with
  | 0 => .inr (4, fsV G (cF 0 i) n)
  | 1 => .inr (2, fsE (cF 1 i))
  | 2 => .inl (gR G, 3, .inr (.inr (.inr (.inr (rowR G)))))
  | 3 => .inr (1, fsD G (cF 3 i) (cN 3 i) (cM i) i)
  | 4 => .inl (gT G, 12, .inr (.inr (.inr (.inr (rowT G n)))))
  | 5 => .inr (0, fsB G (cN 5 i) i)
  | 6 => .inl (gI G, cap i, .inl (cB 6 i))
  | 7 => .inl (gI G, cap i, .inl (cB 7 i))
  | 8 => .inl (gI G, cap i, .inl (cB 8 i))
  | 9 => .inr (3, fsT G (cF 9 i) (cN 9 i) i)
  | 10 => .inl (gZ G, 100, .inl (cB 10 i))
  | 11 => .inl (gZ G, 100, .inl (cB 11 i))
  | 12 => .inr (5, fsM G (if i = 0 then mF else fun _ => 0))
  | 13 => .inl (mcl G i, mlen i, .inl (mA i))
  | _ => .inr (9, [])
def enc (G : GG) (C : CS) (M : MS) (f i : Nat) : va_E := enc0 G (cF C) (cN C) (cB C) (cM C) (zn G) (mF M) (mA M) f i
def LL (n : Nat) : List (Nat × Nat) := [(0, 0), (1, 0), (2, 0), (3, 0), (3, 1), (3, 2), (4, 0), (5, 12), (6, 12), (7, 12), (8, 12), (12, 0), (13, 1), (13, 2), (13, 3), (13, 4), (13, 5), (13, 6), (13, 7), (13, 8), (13, 9), (13, 10), (13, 11), (13, 12), (13, 13), (13, 14), (13, 15), (13, 16), (13, 17), (13, 18), (13, 19)] ++ (List.range n).flatMap (fun t => [(9, t), (5, t), (6, t), (7, t), (8, t), (10, t), (11, t)])
def world (G : GG) (C : CS) (M : MS) : va_W := (LL (zn G)).map (fun q => (zad G q.1 q.2, enc G C M q.1 q.2))
/-- what stands at a point of a walk -/
def Wd (G : GG) (s : State) (A : Nat → Prop) (H0 H : Heap) (locs : List Loc) (C : CS) (M : MS) : Prop :=
  va_K (gD G) vwCl (TYS G) s ∧ va_P (gD G) vwCl (world G C M) H ∧ va_D A (world G C M) ∧ va_S A H0 H locs ∧ ∀ q : Nat, H0.size ≤ q → A q
/-- a contract: from the state C, M the method y at the arguments vs answers r, and the state is C', M' -/
def Ct (l : Launch) (G : GG) (y : MethodName) (bytes : ByteArray) (maxL : Nat) (ret : Option FieldType) (fr lo : Nat) (vs : List Value) (C : CS) (M : MS) (r : Option Value) (C' : CS) (M' : MS) : Prop :=
  ∀ sz : Nat, Met l y (Cond.code y bytes maxL ret :: TT) { frames := fr, cells := 0, slots := 0, locals := lo }
    (va_Pc vs (fun U => U.heap.size = sz ∧ va_P (gD G) vwCl (world G C M) U.heap ∧ va_K (gD G) vwCl (TYS G) U ∧ va_D (fun _ => True) (world G C M)))
    (fun _ st oc t => (oc = .returned r ∧ va_P (gD G) vwCl (world G C' M') t.heap ∧ va_K (gD G) vwCl (TYS G) t ∧ va_D (va_A (world G C M) sz) (world G C' M')) ∧ va_F (va_A (world G C M) sz) st t)
    0 0 (va_A (world G C M) sz)
/-! what the numbers of a world are -/
theorem cF_sF {C : CS} {f i k f' i' k' : Nat} {v : Int32} : cF (sF C f i k v) f' i' k' = if k' = k ∧ f' = f ∧ i' = i then v else cF C f' i' k' := rfl
theorem cN_sN {C : CS} {f i k f' i' k' : Nat} {v : Nat} : cN (sN C f i k v) f' i' k' = if k' = k ∧ f' = f ∧ i' = i then v else cN C f' i' k' := rfl
theorem cB_sB {C : CS} {f i k f' i' k' : Nat} {v : Int32} : cB (sB C f i k v) f' i' k' = if k' = k ∧ f' = f ∧ i' = i then v else cB C f' i' k' := rfl
theorem cM_sM {C : CS} {d d' : Nat} {v : Option Nat} : cM (sM C d v) d' = if d' = d then v else cM C d' := rfl
theorem cN_sF {C : CS} {f i k : Nat} {v : Int32} : cN (sF C f i k v) = cN C := rfl
theorem cB_sF {C : CS} {f i k : Nat} {v : Int32} : cB (sF C f i k v) = cB C := rfl
theorem cM_sF {C : CS} {f i k : Nat} {v : Int32} : cM (sF C f i k v) = cM C := rfl
theorem cF_sN {C : CS} {f i k : Nat} {v : Nat} : cF (sN C f i k v) = cF C := rfl
theorem cB_sN {C : CS} {f i k : Nat} {v : Nat} : cB (sN C f i k v) = cB C := rfl
theorem cM_sN {C : CS} {f i k : Nat} {v : Nat} : cM (sN C f i k v) = cM C := rfl
theorem cF_sB {C : CS} {f i k : Nat} {v : Int32} : cF (sB C f i k v) = cF C := rfl
theorem cN_sB {C : CS} {f i k : Nat} {v : Int32} : cN (sB C f i k v) = cN C := rfl
theorem cM_sB {C : CS} {f i k : Nat} {v : Int32} : cM (sB C f i k v) = cM C := rfl
theorem cF_sM {C : CS} {d : Nat} {v : Option Nat} : cF (sM C d v) = cF C := rfl
theorem cN_sM {C : CS} {d : Nat} {v : Option Nat} : cN (sM C d v) = cN C := rfl
theorem cB_sM {C : CS} {d : Nat} {v : Option Nat} : cB (sM C d v) = cB C := rfl
theorem mF_smF {M : MS} {k k' : Nat} {v : Int32} : mF (smF M k v) k' = if k' = k then v else mF M k' := rfl
theorem mA_smF {M : MS} {k : Nat} {v : Int32} : mA (smF M k v) = mA M := rfl
theorem mF_smA {M : MS} {j k : Nat} {v : Int32} : mF (smA M j k v) = mF M := rfl
theorem mA_smA {M : MS} {j k j' k' : Nat} {v : Int32} : mA (smA M j k v) j' k' = if j' = j ∧ k' = k then v else mA M j' k' := by
  show (va_up M.2 j (upd (M.2 j) k v)) j' k' = _
  unfold va_up upd mA
  by_cases h : j' = j
  · subst h; simp
  · simp [h]
/-! the cells -/
theorem LL_0 {n : Nat} : (0, 0) ∈ LL n := List.mem_append_left _ (by decide)
theorem LL_1 {n : Nat} : (1, 0) ∈ LL n := List.mem_append_left _ (by decide)
theorem LL_2 {n : Nat} : (2, 0) ∈ LL n := List.mem_append_left _ (by decide)
theorem LL_3 {n d : Nat} (h : d < 3) : (3, d) ∈ LL n := by
  rcases (show d = 0 ∨ d = 1 ∨ d = 2 by omega) with rfl | rfl | rfl <;> exact List.mem_append_left _ (by decide)
theorem LL_4 {n : Nat} : (4, 0) ∈ LL n := List.mem_append_left _ (by decide)
theorem LL_t {n t f : Nat} (h : t < n) (hf : (f, t) ∈ [(9, t), (5, t), (6, t), (7, t), (8, t), (10, t), (11, t)]) : (f, t) ∈ LL n :=
  List.mem_append_right _ (List.mem_flatMap.mpr ⟨t, List.mem_range.mpr h, hf⟩)
/-- the rows of blocks that there are: the tapes', and the stage's -/
def isB (n b : Nat) : Prop := b < n ∨ b = 12
theorem LL_5 {n b : Nat} (h : isB n b) : (5, b) ∈ LL n := by
  rcases h with h | rfl
  · exact LL_t h (by simp)
  · exact List.mem_append_left _ (by decide)
theorem LL_6 {n b : Nat} (h : isB n b) : (6, b) ∈ LL n := by
  rcases h with h | rfl
  · exact LL_t h (by simp)
  · exact List.mem_append_left _ (by decide)
theorem LL_7 {n b : Nat} (h : isB n b) : (7, b) ∈ LL n := by
  rcases h with h | rfl
  · exact LL_t h (by simp)
  · exact List.mem_append_left _ (by decide)
theorem LL_8 {n b : Nat} (h : isB n b) : (8, b) ∈ LL n := by
  rcases h with h | rfl
  · exact LL_t h (by simp)
  · exact List.mem_append_left _ (by decide)
theorem LL_9 {n t : Nat} (h : t < n) : (9, t) ∈ LL n := LL_t h (by simp)
theorem LL_10 {n t : Nat} (h : t < n) : (10, t) ∈ LL n := LL_t h (by simp)
theorem LL_11 {n t : Nat} (h : t < n) : (11, t) ∈ LL n := LL_t h (by simp)
theorem LL_12 {n : Nat} : (12, 0) ∈ LL n := List.mem_append_left _ (by decide)
theorem LL_13 {n j : Nat} (h : (13, j) ∈ LL 0) : (13, j) ∈ LL n := List.mem_append_left _ (by simpa [LL] using h)
theorem w_get {G : GG} {C : CS} {M : MS} {f i : Nat} (h : (f, i) ∈ LL (zn G)) : ∃ k : Nat, (world G C M)[k]? = some (zad G f i, enc G C M f i) :=
  List.getElem?_of_mem (List.mem_map.mpr ⟨(f, i), h, rfl⟩)
theorem w_set {A : Nat → Prop} {G : GG} {C C' : CS} {M M' : MS} {k f i : Nat} {e : va_E} (hD : va_D A (world G C M)) (hk : (world G C M)[k]? = some (zad G f i, enc G C M f i)) (hm : (f, i) ∈ LL (zn G)) (he : enc G C' M' f i = e) (ho : ∀ f' i' : Nat, (f', i') ≠ (f, i) → enc G C' M' f' i' = enc G C M f' i') : (world G C M).set k (zad G f i, e) = world G C' M' := by
  obtain ⟨k2, hk2⟩ := List.getElem?_of_mem hm
  have hw2 : (world G C M)[k2]? = some (zad G f i, enc G C M f i) := by simp [world, List.getElem?_map, hk2]
  have hkk : k = k2 := hD.1 k k2 _ _ hk hw2 rfl
  subst hkk
  have hl := (List.getElem?_eq_some_iff.mp hk).1
  apply List.ext_getElem?
  intro j
  by_cases hj : k = j
  · subst hj
    rw [List.getElem?_set_self hl]
    simp [world, List.getElem?_map, hk2, he]
  · rw [List.getElem?_set_ne hj]
    simp only [world, List.getElem?_map]
    cases hb : (LL (zn G))[j]? with
    | none => rfl
    | some b =>
      have hne : (b.1, b.2) ≠ (f, i) := by
        intro hbe
        have hwj : (world G C M)[j]? = some (zad G f i, enc G C M f i) := by
          have h1 : b.1 = f := congrArg Prod.fst hbe
          have h2 : b.2 = i := congrArg Prod.snd hbe
          simp [world, List.getElem?_map, hb, h1, h2]
        exact hj (hD.1 k j _ _ hk hwj rfl)
      simp only [Option.map_some, ho b.1 b.2 hne]
theorem w_len {G : GG} {C C' : CS} {M M' : MS} : ∀ (k q : Nat), (∃ e, (world G C' M')[k]? = some (q, e)) → ∃ e, (world G C M)[k]? = some (q, e) := by
  intro k q ⟨e, h⟩
  simp only [world, List.getElem?_map] at h ⊢
  cases hb : (LL (zn G))[k]? with
  | none => rw [hb] at h; cases h
  | some b =>
    rw [hb] at h
    simp only [Option.map_some, Option.some.injEq, Prod.mk.injEq] at h ⊢
    exact ⟨_, h.1, rfl⟩
theorem w_A {G : GG} {C C' : CS} {M M' : MS} {sz : Nat} (q : Nat) (h : va_A (world G C' M') sz q) : va_A (world G C M) sz q := by
  rcases h with ⟨k, e, h⟩ | h
  · obtain ⟨e', h'⟩ := w_len (C := C) (M := M) k q ⟨e, h⟩
    exact Or.inl ⟨k, e', h'⟩
  · exact Or.inr h
theorem e_ne {f i f' i' : Nat} (h : (f', i') ≠ (f, i)) : ¬ (f' = f ∧ i' = i) := fun q => h (by rw [q.1, q.2])
theorem enc_sF {G : GG} {C : CS} {M : MS} {f i k f' i' : Nat} {v : Int32} (h : (f', i') ≠ (f, i)) : enc G (sF C f i k v) M f' i' = enc G C M f' i' := by
  have hx : cF (sF C f i k v) f' i' = cF C f' i' := by
    funext k'
    rw [cF_sF, if_neg (fun q => e_ne h ⟨q.2.1, q.2.2⟩)]
  unfold enc enc0
  rw [cN_sF, cB_sF, cM_sF]
  split <;> first | rfl | rw [hx]
theorem enc_sN {G : GG} {C : CS} {M : MS} {f i k f' i' v : Nat} (h : (f', i') ≠ (f, i)) : enc G (sN C f i k v) M f' i' = enc G C M f' i' := by
  have hx : cN (sN C f i k v) f' i' = cN C f' i' := by
    funext k'
    rw [cN_sN, if_neg (fun q => e_ne h ⟨q.2.1, q.2.2⟩)]
  unfold enc enc0
  rw [cF_sN, cB_sN, cM_sN]
  split <;> first | rfl | rw [hx]
theorem enc_sB {G : GG} {C : CS} {M : MS} {f i k f' i' : Nat} {v : Int32} (h : (f', i') ≠ (f, i)) : enc G (sB C f i k v) M f' i' = enc G C M f' i' := by
  have hx : cB (sB C f i k v) f' i' = cB C f' i' := by
    funext k'
    rw [cB_sB, if_neg (fun q => e_ne h ⟨q.2.1, q.2.2⟩)]
  unfold enc enc0
  rw [cF_sB, cN_sB, cM_sB]
  split <;> first | rfl | rw [hx]
theorem enc_sM {G : GG} {C : CS} {M : MS} {d f' i' : Nat} {v : Option Nat} (h : (f', i') ≠ (3, d)) : enc G (sM C d v) M f' i' = enc G C M f' i' := by
  unfold enc enc0
  rw [cF_sM, cN_sM, cB_sM]
  split
  case h_4 => rw [cM_sM, if_neg (fun q => h (by rw [q]))]
  all_goals rfl
theorem enc_smF {G : GG} {C : CS} {M : MS} {k f' i' : Nat} {v : Int32} (h : (f', i') ≠ (12, 0)) : enc G C (smF M k v) f' i' = enc G C M f' i' := by
  unfold enc enc0
  rw [mA_smF]
  split
  case h_13 =>
    have hi : i' ≠ 0 := fun q => h (by rw [q])
    rw [if_neg hi, if_neg hi]
  all_goals rfl
theorem enc_smA {G : GG} {C : CS} {M : MS} {j k f' i' : Nat} {v : Int32} (h : (f', i') ≠ (13, j)) : enc G C (smA M j k v) f' i' = enc G C M f' i' := by
  unfold enc enc0
  rw [mF_smA]
  split
  case h_14 =>
    have hx : mA (smA M j k v) i' = mA M i' := by
      funext k'
      rw [mA_smA, if_neg (fun q => h (by rw [q.1]))]
    rw [hx]
  all_goals rfl
