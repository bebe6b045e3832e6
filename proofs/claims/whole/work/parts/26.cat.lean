/-! ===== the two sides: the catalogue ===== -/
def ct (f : Nat → Bool) : Nat → Nat
  | 0 => 0
  | k + 1 => ct f k + (if f k then 1 else 0)
theorem ct_congr {f g : Nat → Bool} : ∀ {k : Nat}, (∀ i, i < k → f i = g i) → ct f k = ct g k := by
  intro k
  induction k with
  | zero => intro _; rfl
  | succ k ih => intro h; unfold ct; rw [ih (fun i hi => h i (by omega)), h k (by omega)]
theorem ct_set {f : Nat → Bool} {j : Nat} {b : Bool} : ∀ {k : Nat}, j < k → ct (fun i => if i = j then b else f i) k + (if f j then 1 else 0) = ct f k + (if b then 1 else 0) := by
  intro k
  induction k with
  | zero => intro h; omega
  | succ k ih =>
    intro h
    unfold ct
    by_cases e : j = k
    · subst e
      rw [ct_congr (g := f) (fun i hi => if_neg (by omega)), if_pos rfl]
      omega
    · have := ih (by omega)
      rw [if_neg (show ¬ k = j from fun q => e q.symm)]
      omega
theorem ct_0 {f : Nat → Bool} : ∀ {k : Nat}, (∀ i, i < k → f i = false) → ct f k = 0 := by
  intro k
  induction k with
  | zero => intro _; rfl
  | succ k ih => intro h; unfold ct; rw [ih (fun i hi => h i (by omega)), h k (by omega)]; rfl
def lB (C : CS) (t j : Nat) : Bool := decide (cB C 11 t j ≠ 0)
def kB (M : MS) (t j : Nat) : Bool := decide (mA M 9 (1000 * t + j) ≠ 0)
def cntL (C : CS) (t : Nat) : Nat := ct (lB C t) 100
def cntK (M : MS) (t : Nat) : Nat := ct (kB M t) 1000
/-- what the catalogue has of a tape, on both sides -/
def Rcat (C : CS) (M : MS) (t : Nat) : Prop :=
  (∀ j, cB C 11 t j ≠ 0 → kAt C 6 t j = 1 ∧ j + zN C t j + 1 < cN C 5 t 3) ∧
  (∀ nm j, nm < 1000 → cB C 11 t j ≠ 0 → cB C 7 t j = nI nm → mA M 9 (1000 * t + nm) = nI (j + 1)) ∧
  (∀ nm, nm < 1000 → mA M 9 (1000 * t + nm) ≠ 0 → ∃ j, cB C 11 t j ≠ 0 ∧ cB C 7 t j = nI nm ∧ mA M 9 (1000 * t + nm) = nI (j + 1)) ∧
  cntL C t = cntK M t
theorem Rcat.of {C C' : CS} {M M' : MS} {t : Nat} (h : Rcat C M t) (h11 : ∀ j, cB C' 11 t j = cB C 11 t j) (hE : cN C 5 t 3 ≤ cN C' 5 t 3) (hB : ∀ f a, f ≤ 8 → a < cN C 5 t 3 → cB C' f t a = cB C f t a) (hm : ∀ nm, nm < 1000 → mA M' 9 (1000 * t + nm) = mA M 9 (1000 * t + nm)) : Rcat C' M' t := by
  obtain ⟨a, b, c, d⟩ := h
  refine ⟨fun j hj => ?_, fun nm j hn hj hv => ?_, fun nm hn hk => ?_, ?_⟩
  · rw [h11] at hj
    obtain ⟨a1, a2⟩ := a j hj
    have z : zN C' t j = zN C t j := by unfold zN kAt; rw [if_pos (by omega), if_pos (by omega), hB 8 j (by decide) (by omega)]
    rw [z]
    unfold kAt at a1 ⊢
    rw [if_pos (by omega)] at a1
    rw [if_pos (by omega), hB 6 j (by decide) (by omega)]
    exact ⟨a1, by omega⟩
  · rw [h11] at hj
    obtain ⟨a1, a2⟩ := a j hj
    rw [hB 7 j (by decide) (by omega)] at hv
    rw [hm nm hn]; exact b nm j hn hj hv
  · rw [hm nm hn] at hk ⊢
    obtain ⟨j, c1, c2, c3⟩ := c nm hn hk
    obtain ⟨a1, a2⟩ := a j c1
    exact ⟨j, by rw [h11]; exact c1, by rw [hB 7 j (by decide) (by omega)]; exact c2, c3⟩
  · rw [show cntL C' t = cntL C t from ct_congr (fun i _ => by unfold lB; rw [h11]), d]
    exact (ct_congr (fun i hi => by unfold kB; rw [hm i hi])).symm
theorem lhL_some {C : CS} {t i : Nat} {x : Int32} : ∀ {k j : Nat}, lhL C t x k j = some i → cB C 11 t i ≠ 0 ∧ cB C 7 t i = x := by
  intro k
  induction k with
  | zero => intro j h; cases h
  | succ k ih =>
    intro j h
    unfold lhL at h
    split at h
    · rename_i q; cases h; exact q
    · exact ih h
theorem lhL_none {C : CS} {t : Nat} {x : Int32} : ∀ {k j : Nat}, lhL C t x k j = none → ∀ i, j ≤ i → i < j + k → ¬ (cB C 11 t i ≠ 0 ∧ cB C 7 t i = x) := by
  intro k
  induction k with
  | zero => intro j h i h1 h2; omega
  | succ k ih =>
    intro j h i h1 h2
    unfold lhL at h
    split at h
    · cases h
    · rename_i q
      by_cases e : i = j
      · rw [e]; exact q
      · exact ih h i (by omega) (by omega)
theorem lh_some {C : CS} {t i : Nat} {x : Int32} (h : lh C t x = some i) : cB C 11 t i ≠ 0 ∧ cB C 7 t i = x := lhL_some h
theorem lh_none {C : CS} {t : Nat} {x : Int32} (h : lh C t x = none) (i : Nat) (hi : i < cN C 5 t 3) : ¬ (cB C 11 t i ≠ 0 ∧ cB C 7 t i = x) := lhL_none h i (Nat.zero_le _) (by omega)
theorem Rcat.lt {C : CS} {M : MS} {t j : Nat} (h : Rcat C M t) (hj : cB C 11 t j ≠ 0) : j < cN C 5 t 3 := by have := (h.1 j hj).2; omega
theorem cat_some {C : CS} {M : MS} {t nm j : Nat} (h : Rcat C M t) (hn : nm < 1000) (hl : lh C t (nI nm) = some j) : mA M 9 (1000 * t + nm) = nI (j + 1) := h.2.1 nm j hn (lh_some hl).1 (lh_some hl).2
theorem cat_none {C : CS} {M : MS} {t nm : Nat} (h : Rcat C M t) (hn : nm < 1000) (hl : lh C t (nI nm) = none) : mA M 9 (1000 * t + nm) = 0 := by
  refine Classical.byContradiction (fun q => ?_)
  obtain ⟨j, c1, c2, -⟩ := h.2.2.1 nm hn q
  exact lh_none hl j (h.lt c1) ⟨c1, c2⟩
theorem cB_unl {C : CS} {t f b j : Nat} {o : Option Nat} : cB (unl C t o) f b j = if f = 11 ∧ b = t ∧ o = some j then 0 else cB C f b j := by
  cases o with
  | none => rw [if_neg (fun q => by cases q.2.2)]; rfl
  | some i =>
    show cB (sB C 11 t i 0) f b j = _
    rw [cB_sB]
    by_cases e : j = i ∧ f = 11 ∧ b = t
    · rw [if_pos e, if_pos ⟨e.2.1, e.2.2, by rw [e.1]⟩]
    · rw [if_neg e, if_neg (fun q => e ⟨(Option.some.inj q.2.2).symm, q.1, q.2.1⟩)]
theorem cB_listC {C : CS} {t h f b j : Nat} : cB (listC C t h) f b j = if f = 11 ∧ b = t then (if j = h then 1 else if lh C t (kAt C 7 t h) = some j then 0 else cB C f b j) else cB C f b j := by
  unfold listC
  rw [cB_sB, cB_unl]
  by_cases e : f = 11 ∧ b = t
  · rw [if_pos e]
    by_cases e2 : j = h
    · rw [if_pos ⟨e2, e.1, e.2⟩, if_pos e2]
    · rw [if_neg (fun q => e2 q.1), if_neg e2]
      by_cases e3 : lh C t (kAt C 7 t h) = some j
      · rw [if_pos ⟨e.1, e.2, e3⟩, if_pos e3]
      · rw [if_neg (fun q => e3 q.2.2), if_neg e3]
  · rw [if_neg e, if_neg (fun q => e ⟨q.2.1, q.2.2⟩), if_neg (fun q => e ⟨q.1, q.2.1⟩)]
theorem kAt_B11 {C C' : CS} {f b a : Nat} (hN : cN C' 5 b 3 = cN C 5 b 3) (hB : cB C' f b a = cB C f b a) : kAt C' f b a = kAt C f b a := by unfold kAt; rw [hN, hB]
theorem kAt_listC {C : CS} {t h f b a : Nat} (hf : f ≤ 10) : kAt (listC C t h) f b a = kAt C f b a := kAt_B11 (by rw [cN_listC]) (by rw [cB_listC, if_neg (by omega)])
theorem cat_list {C : CS} {M : MS} {t h nm : Nat} (hc : Rcat C M t) (hE : cN C 5 t 3 ≤ 100) (hn : nm < 1000) (h6 : kAt C 6 t h = 1) (h7 : kAt C 7 t h = nI nm) (hz : h + zN C t h + 1 < cN C 5 t 3) (hH : ∀ j, cB C 11 t j ≠ 0 → ∃ nm, nm < 1000 ∧ cB C 7 t j = nI nm) :
    Rcat (listC C t h) (smA M 9 (1000 * t + nm) (nI (h + 1))) t ∧ cntK (smA M 9 (1000 * t + nm) (nI (h + 1))) t = (if mA M 9 (1000 * t + nm) = 0 then cntK M t + 1 else cntK M t) := by
  have hv : cB C 7 t h = nI nm := by unfold kAt at h7; rw [if_pos (by omega)] at h7; exact h7
  have e11 : ∀ j, cB (listC C t h) 11 t j = if j = h then 1 else if lh C t (nI nm) = some j then 0 else cB C 11 t j := fun j => by rw [cB_listC, if_pos ⟨rfl, rfl⟩, h7]
  have e7 : ∀ j, cB (listC C t h) 7 t j = cB C 7 t j := fun j => by rw [cB_listC, if_neg (by omega)]
  have e8 : ∀ j, zN (listC C t h) t j = zN C t j := fun j => by unfold zN; rw [kAt_listC (by decide)]
  have hm : ∀ nm', mA (smA M 9 (1000 * t + nm) (nI (h + 1))) 9 (1000 * t + nm') = if nm' = nm then nI (h + 1) else mA M 9 (1000 * t + nm') := fun nm' => by
    rw [mA_smA]
    by_cases e : nm' = nm
    · rw [if_pos ⟨rfl, by rw [e]⟩, if_pos e]
    · rw [if_neg (by omega), if_neg e]
  have inj : ∀ i j : Nat, i < 100 → j < 100 → nI (i + 1) = nI (j + 1) → i = j := fun i j hi hj q => by
    have := (nI_eq (a := i + 1) (b := j + 1) (by omega) (by omega)).mp q; omega
  -- a listed head of the name is the one that is found
  have uq : ∀ j, cB C 11 t j ≠ 0 → cB C 7 t j = nI nm → lh C t (nI nm) = some j := fun j hj hv2 => by
    have lj := hc.lt hj
    cases hl : lh C t (nI nm) with
    | none => exact absurd ⟨hj, hv2⟩ (lh_none hl j lj)
    | some i =>
      have h1 := cat_some hc hn hl
      have h2 := hc.2.1 nm j hn hj hv2
      have li := hc.lt (lh_some hl).1
      rw [inj i j (by omega) (by omega) (h1.symm.trans h2)]
  have hK : cntK (smA M 9 (1000 * t + nm) (nI (h + 1))) t + (if mA M 9 (1000 * t + nm) = 0 then 0 else 1) = cntK M t + 1 := by
    have h1 := ct_set (f := kB M t) (j := nm) (b := true) (k := 1000) hn
    have h2 : cntK (smA M 9 (1000 * t + nm) (nI (h + 1))) t = ct (fun i => if i = nm then true else kB M t i) 1000 := ct_congr (fun i hi => by
      show decide (mA (smA M 9 (1000 * t + nm) (nI (h + 1))) 9 (1000 * t + i) ≠ 0) = _
      rw [hm]
      by_cases e : i = nm
      · rw [if_pos e, if_pos e]; exact decide_eq_true (nI_ne0 (by omega) (by omega))
      · rw [if_neg e, if_neg e]; rfl)
    rw [h2]
    unfold cntK
    have h3 : (if kB M t nm = true then 1 else 0) = (if mA M 9 (1000 * t + nm) = 0 then 0 else 1) := by
      unfold kB
      by_cases e : mA M 9 (1000 * t + nm) = 0
      · simp [e]
      · simp [e]
    rw [h3] at h1
    exact h1
  have hKe : cntK (smA M 9 (1000 * t + nm) (nI (h + 1))) t = (if mA M 9 (1000 * t + nm) = 0 then cntK M t + 1 else cntK M t) := by
    split at hK <;> split <;> first | omega | (rename_i q r; exact absurd q r) | (rename_i q r; exact absurd r q)
  refine ⟨⟨fun j hj => ?_, fun nm' j hn' hj hv' => ?_, fun nm' hn' hk => ?_, ?_⟩, hKe⟩
  · rw [e11] at hj
    rw [kAt_listC (by decide), e8, cN_listC]
    by_cases e : j = h
    · rw [e]; exact ⟨h6, hz⟩
    · rw [if_neg e] at hj
      split at hj
      · exact absurd rfl hj
      · exact hc.1 j hj
  · rw [e11] at hj
    rw [e7] at hv'
    rw [hm]
    by_cases e : nm' = nm
    · subst e
      rw [if_pos rfl]
      by_cases e2 : j = h
      · rw [e2]
      · rw [if_neg e2] at hj
        split at hj
        · exact absurd rfl hj
        · rename_i q; exact absurd (uq j hj hv') q
    · rw [if_neg e]
      by_cases e2 : j = h
      · rw [e2, hv] at hv'
        exact absurd ((nI_eq (a := nm) (b := nm') (by omega) (by omega)).mp hv').symm e
      · rw [if_neg e2] at hj
        split at hj
        · exact absurd rfl hj
        · exact hc.2.1 nm' j hn' hj hv'
  · rw [hm] at hk ⊢
    by_cases e : nm' = nm
    · subst e
      rw [if_pos rfl]
      exact ⟨h, by rw [e11, if_pos rfl]; decide, by rw [e7]; exact hv, rfl⟩
    · rw [if_neg e] at hk ⊢
      obtain ⟨j, c1, c2, c3⟩ := hc.2.2.1 nm' hn' hk
      refine ⟨j, ?_, by rw [e7]; exact c2, c3⟩
      rw [e11]
      split
      · decide
      · split
        · rename_i q
          have := (lh_some q).2
          rw [c2] at this
          exact absurd ((nI_eq (a := nm') (b := nm) (by omega) (by omega)).mp this) e
        · exact c1
  · rw [hKe]
    have hx := hc.2.2.2
    cases hl : lh C t (nI nm) with
    | none =>
      rw [if_pos (cat_none hc hn hl)]
      have h1 := ct_set (f := lB C t) (j := h) (b := true) (k := 100) (by omega)
      have h2 : cntL (listC C t h) t = ct (fun i => if i = h then true else lB C t i) 100 := ct_congr (fun i hi => by
        show decide (cB (listC C t h) 11 t i ≠ 0) = _
        rw [e11]
        by_cases e : i = h
        · rw [if_pos e, if_pos e]; rfl
        · rw [if_neg e, if_neg e, hl, if_neg (fun q => by cases q)]; rfl)
      have h3 : lB C t h = false := decide_eq_false (fun q => lh_none hl h (by omega) ⟨q, hv⟩)
      rw [h3] at h1
      have h1 : ct (fun i => if i = h then true else lB C t i) 100 + 0 = ct (lB C t) 100 + 1 := h1
      rw [h2]
      unfold cntL at hx
      omega
    | some j =>
      have lj := hc.lt (lh_some hl).1
      rw [if_neg (by rw [cat_some hc hn hl]; exact nI_ne0 (by omega) (by omega))]
      have h0 := ct_set (f := lB C t) (j := j) (b := false) (k := 100) (by omega)
      have h1 := ct_set (f := fun i => if i = j then false else lB C t i) (j := h) (b := true) (k := 100) (by omega)
      have h2 : cntL (listC C t h) t = ct (fun i => if i = h then true else (fun i => if i = j then false else lB C t i) i) 100 := ct_congr (fun i hi => by
        show decide (cB (listC C t h) 11 t i ≠ 0) = _
        rw [e11]
        by_cases e : i = h
        · rw [if_pos e, if_pos e]; rfl
        · rw [if_neg e, if_neg e, hl]
          show decide ((if some j = some i then (0 : Int32) else cB C 11 t i) ≠ 0) = if i = j then false else lB C t i
          by_cases e2 : i = j
          · rw [if_pos e2, e2, if_pos rfl]; rfl
          · rw [if_neg e2, if_neg (fun q => e2 (Option.some.inj q).symm)]; rfl)
      have h3 : lB C t j = true := decide_eq_true (lh_some hl).1
      have h4 : (if h = j then false else lB C t h) = false := by
        by_cases e : h = j
        · rw [if_pos e]
        · rw [if_neg e]
          refine decide_eq_false (fun q => e ?_)
          have := uq h q hv
          rw [hl] at this
          exact (Option.some.inj this).symm
      rw [h3] at h0
      have h0 : ct (fun i => if i = j then false else lB C t i) 100 + 1 = ct (lB C t) 100 + 0 := h0
      have h1 : ct (fun i => if i = h then true else (fun i => if i = j then false else lB C t i) i) 100 + (if (if h = j then false else lB C t h) = true then 1 else 0) = ct (fun i => if i = j then false else lB C t i) 100 + 1 := h1
      rw [h4] at h1
      have h1 : ct (fun i => if i = h then true else (fun i => if i = j then false else lB C t i) i) 100 + 0 = ct (fun i => if i = j then false else lB C t i) 100 + 1 := h1
      rw [h2]
      unfold cntL at hx
      omega
theorem cat_unlist {C : CS} {M : MS} {t j nm : Nat} (hc : Rcat C M t) (hE : cN C 5 t 3 ≤ 100) (hn : nm < 1000) (hl : lh C t (nI nm) = some j) : Rcat (sB C 11 t j 0) (smA M 9 (1000 * t + nm) 0) t := by
  have lj := hc.lt (lh_some hl).1
  have e11 : ∀ i, cB (sB C 11 t j 0) 11 t i = if i = j then 0 else cB C 11 t i := fun i => by
    rw [cB_sB]
    by_cases e : i = j
    · rw [if_pos ⟨e, rfl, rfl⟩, if_pos e]
    · rw [if_neg (fun q => e q.1), if_neg e]
  have e7 : ∀ f i, f ≠ 11 → cB (sB C 11 t j 0) f t i = cB C f t i := fun f i hf => by rw [cB_sB, if_neg (fun q => hf q.2.1)]
  have ek : ∀ f a, f ≠ 11 → kAt (sB C 11 t j 0) f t a = kAt C f t a := fun f a hf => by unfold kAt; rw [e7 f a hf]; rfl
  have hm : ∀ nm', mA (smA M 9 (1000 * t + nm) 0) 9 (1000 * t + nm') = if nm' = nm then 0 else mA M 9 (1000 * t + nm') := fun nm' => by
    rw [mA_smA]
    by_cases e : nm' = nm
    · rw [if_pos ⟨rfl, by rw [e]⟩, if_pos e]
    · rw [if_neg (by omega), if_neg e]
  refine ⟨fun i hi => ?_, fun nm' i hn' hi hv' => ?_, fun nm' hn' hk => ?_, ?_⟩
  · rw [e11] at hi
    split at hi
    · exact absurd rfl hi
    · have := hc.1 i hi
      unfold zN
      rw [ek 6 i (by decide), ek 8 i (by decide)]; exact this
  · rw [e11] at hi
    rw [e7 7 i (by decide)] at hv'
    rw [hm]
    by_cases e2 : i = j
    · rw [if_pos e2] at hi; exact absurd rfl hi
    · rw [if_neg e2] at hi
      have h9 := hc.2.1 nm' i hn' hi hv'
      by_cases e : nm' = nm
      · exfalso
        subst e
        have h8 := cat_some hc hn hl
        have li := hc.lt hi
        have := (nI_eq (a := i + 1) (b := j + 1) (by omega) (by omega)).mp (h9.symm.trans h8)
        omega
      · rw [if_neg e]; exact h9
  · rw [hm] at hk ⊢
    by_cases e : nm' = nm
    · rw [if_pos e] at hk; exact absurd rfl hk
    · rw [if_neg e] at hk ⊢
      obtain ⟨i, c1, c2, c3⟩ := hc.2.2.1 nm' hn' hk
      refine ⟨i, ?_, by rw [e7 7 i (by decide)]; exact c2, c3⟩
      rw [e11]
      by_cases e2 : i = j
      · exfalso
        have := (lh_some hl).2
        rw [e2, this] at c2
        exact e ((nI_eq (a := nm) (b := nm') (by omega) (by omega)).mp c2).symm
      · rw [if_neg e2]; exact c1
  · have h0 := ct_set (f := lB C t) (j := j) (b := false) (k := 100) (by omega)
    have h1 := ct_set (f := kB M t) (j := nm) (b := false) (k := 1000) hn
    have h2 : cntL (sB C 11 t j 0) t = ct (fun i => if i = j then false else lB C t i) 100 := ct_congr (fun i hi => by
      show decide (cB (sB C 11 t j 0) 11 t i ≠ 0) = _
      rw [e11]
      by_cases e : i = j
      · rw [if_pos e, if_pos e]; rfl
      · rw [if_neg e, if_neg e]; rfl)
    have h3 : cntK (smA M 9 (1000 * t + nm) 0) t = ct (fun i => if i = nm then false else kB M t i) 1000 := ct_congr (fun i hi => by
      show decide (mA (smA M 9 (1000 * t + nm) 0) 9 (1000 * t + i) ≠ 0) = _
      rw [hm]
      by_cases e : i = nm
      · rw [if_pos e, if_pos e]; rfl
      · rw [if_neg e, if_neg e]; rfl)
    have h4 : lB C t j = true := decide_eq_true (lh_some hl).1
    have h5 : kB M t nm = true := decide_eq_true (by rw [cat_some hc hn hl]; exact nI_ne0 (by omega) (by omega))
    have hx := hc.2.2.2
    rw [h4] at h0
    rw [h5] at h1
    have h0 : ct (fun i => if i = j then false else lB C t i) 100 + 1 = ct (lB C t) 100 + 0 := h0
    have h1 : ct (fun i => if i = nm then false else kB M t i) 1000 + 1 = ct (kB M t) 1000 + 0 := h1
    rw [h2, h3]
    unfold cntL cntK at hx
    omega
