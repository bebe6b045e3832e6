/-! ===== the two sides: losing and listing ===== -/
theorem lcL_congr {C C' : CS} {t : Nat} : ∀ {k j n : Nat}, (∀ i, j ≤ i → cB C' 11 t i = cB C 11 t i) → lcL C' t k j n = lcL C t k j n := by
  intro k
  induction k with
  | zero => intro j n _; rfl
  | succ k ih =>
    intro j n h
    unfold lcL
    rw [h j (Nat.le_refl _), ih (fun i hi => h i (by omega)), ih (fun i hi => h i (by omega))]
theorem lcL_ct {C : CS} {t : Nat} : ∀ {k j n : Nat}, lcL C t k j n + ct (lB C t) j = n + ct (lB C t) (j + k) := by
  intro k
  induction k with
  | zero => intro j n; rfl
  | succ k ih =>
    intro j n
    have e : ct (lB C t) (j + 1) = ct (lB C t) j + (if lB C t j then 1 else 0) := rfl
    unfold lcL
    by_cases z : cB C 11 t j = 0
    · have hb : lB C t j = false := decide_eq_false (fun q => q z)
      rw [hb] at e
      have e : ct (lB C t) (j + 1) = ct (lB C t) j + 0 := e
      have := ih (j := j + 1) (n := n)
      rw [if_pos z, show j + (k + 1) = j + 1 + k by omega]
      omega
    · have hb : lB C t j = true := decide_eq_true z
      rw [hb] at e
      have e : ct (lB C t) (j + 1) = ct (lB C t) j + 1 := e
      have := ih (j := j + 1) (n := n + 1)
      rw [if_neg z, show j + (k + 1) = j + 1 + k by omega]
      omega
theorem lcL_cnt {C : CS} {t : Nat} : lcL C t 100 0 0 = cntL C t := by
  have := lcL_ct (C := C) (t := t) (k := 100) (j := 0) (n := 0)
  have e : ct (lB C t) 0 = 0 := rfl
  rw [show 0 + 100 = 100 from rfl] at this
  unfold cntL; omega
theorem uaL_1 {t : Nat} : ∀ (k j n : Nat) (C : CS), (uaL t k j n C).1 = lcL C t k j n := by
  intro k
  induction k with
  | zero => intro j n C; rfl
  | succ k ih =>
    intro j n C
    unfold uaL lcL
    split
    · exact ih _ _ _
    · rw [ih]
      exact lcL_congr (fun i hi => by rw [cB_sB, if_neg (by omega)])
theorem uaL_B {t f b i : Nat} : ∀ (k j n : Nat) (C : CS), cB (uaL t k j n C).2 f b i = if f = 11 ∧ b = t ∧ j ≤ i ∧ i < j + k then 0 else cB C f b i := by
  intro k
  induction k with
  | zero => intro j n C; rw [if_neg (by omega)]; rfl
  | succ k ih =>
    intro j n C
    unfold uaL
    split
    · rename_i z
      rw [ih]
      by_cases e : f = 11 ∧ b = t ∧ i = j
      · rw [if_neg (by omega), if_pos (by omega), e.1, e.2.1, e.2.2]; exact z
      · by_cases e2 : f = 11 ∧ b = t ∧ j + 1 ≤ i ∧ i < j + 1 + k
        · rw [if_pos e2, if_pos (by omega)]
        · rw [if_neg e2, if_neg (by omega)]
    · rw [ih, cB_sB]
      by_cases e : f = 11 ∧ b = t ∧ i = j
      · rw [if_neg (by omega), if_pos (by omega), if_pos (by omega)]
      · by_cases e2 : f = 11 ∧ b = t ∧ j + 1 ≤ i ∧ i < j + 1 + k
        · rw [if_pos e2, if_pos (by omega)]
        · rw [if_neg e2, if_neg (by omega), if_neg (by omega)]
theorem uaL_F {t : Nat} : ∀ (k j n : Nat) (C : CS), cF (uaL t k j n C).2 = cF C ∧ cM (uaL t k j n C).2 = cM C := by
  intro k
  induction k with
  | zero => intro j n C; exact ⟨rfl, rfl⟩
  | succ k ih =>
    intro j n C
    unfold uaL
    split
    · exact ih _ _ _
    · exact ⟨(ih _ _ _).1, (ih _ _ _).2⟩
theorem fgL_9 {t i : Nat} : ∀ (k j n : Nat) (M : MS), mA (fgL t k j n M).2 9 i = if 1000 * t + j ≤ i ∧ i < 1000 * t + j + k then 0 else mA M 9 i := by
  intro k
  induction k with
  | zero => intro j n M; rw [if_neg (by omega)]; rfl
  | succ k ih =>
    intro j n M
    unfold fgL
    rw [ih, mA_smA]
    by_cases e : i = 1000 * t + j
    · rw [if_neg (by omega), if_pos ⟨rfl, e⟩, if_pos (by omega)]
    · by_cases e2 : 1000 * t + (j + 1) ≤ i ∧ i < 1000 * t + (j + 1) + k
      · rw [if_pos e2, if_pos (by omega)]
      · rw [if_neg e2, if_neg (fun q => e q.2), if_neg (by omega)]
theorem fgL_1 {t : Nat} {M0 : MS} (hz : ∀ i, i < 1000 → (mA M0 9 (1000 * t + i) ≤ 0 ↔ mA M0 9 (1000 * t + i) = 0)) : ∀ (k j n : Nat) (M : MS), (∀ i, j ≤ i → mA M 9 (1000 * t + i) = mA M0 9 (1000 * t + i)) → j + k ≤ 1000 → (fgL t k j n M).1 + ct (kB M0 t) j = n + ct (kB M0 t) (j + k) := by
  intro k
  induction k with
  | zero => intro j n M _ _; rfl
  | succ k ih =>
    intro j n M h hb
    have e : ct (kB M0 t) (j + 1) = ct (kB M0 t) j + (if kB M0 t j then 1 else 0) := rfl
    unfold fgL
    have hn : ∀ i, j + 1 ≤ i → mA (smA M 9 (1000 * t + j) 0) 9 (1000 * t + i) = mA M0 9 (1000 * t + i) := fun i hi => by rw [mA_ni (by omega)]; exact h i (by omega)
    have := ih (j + 1) (if mA M 9 (1000 * t + j) ≤ 0 then n else n + 1) (smA M 9 (1000 * t + j) 0) hn (by omega)
    rw [show j + (k + 1) = j + 1 + k by omega]
    have h0 := h j (Nat.le_refl _)
    by_cases z : mA M0 9 (1000 * t + j) = 0
    · have hk : kB M0 t j = false := decide_eq_false (fun q => q z)
      rw [hk] at e
      have e : ct (kB M0 t) (j + 1) = ct (kB M0 t) j + 0 := e
      have zl : mA M 9 (1000 * t + j) ≤ 0 := by rw [h0]; exact (hz j (by omega)).mpr z
      rw [if_pos zl] at this ⊢
      omega
    · have hk : kB M0 t j = true := decide_eq_true z
      rw [hk] at e
      have e : ct (kB M0 t) (j + 1) = ct (kB M0 t) j + 1 := e
      have zl : ¬ mA M 9 (1000 * t + j) ≤ 0 := by rw [h0]; exact fun q => z ((hz j (by omega)).mp q)
      rw [if_neg zl] at this ⊢
      omega
theorem cat_lose {C : CS} {M : MS} {t : Nat} (hc : Rcat C M t) (hE : cN C 5 t 3 ≤ 100) : Rcat (uaL t 100 0 0 C).2 (fgL t 1000 0 0 M).2 t ∧ (uaL t 100 0 0 C).1 = (fgL t 1000 0 0 M).1 := by
  have e11 : ∀ j, cB (uaL t 100 0 0 C).2 11 t j ≠ 0 → False := fun j hj => by
    rw [uaL_B] at hj
    split at hj
    · exact hj rfl
    · rename_i q
      have := hc.lt hj
      omega
  have e9 : ∀ nm, nm < 1000 → mA (fgL t 1000 0 0 M).2 9 (1000 * t + nm) = 0 := fun nm hn => by rw [fgL_9, if_pos (by omega)]
  refine ⟨⟨fun j hj => (e11 j hj).elim, fun nm j _ hj => (e11 j hj).elim, fun nm hn hk => absurd (e9 nm hn) hk, ?_⟩, ?_⟩
  · have h1 : cntL (uaL t 100 0 0 C).2 t = 0 := ct_0 (fun i _ => decide_eq_false (fun q => e11 i q))
    have h2 : cntK (fgL t 1000 0 0 M).2 t = 0 := ct_0 (fun i hi => decide_eq_false (fun q => q (e9 i hi)))
    rw [h1, h2]
  · have hz : ∀ i, i < 1000 → (mA M 9 (1000 * t + i) ≤ 0 ↔ mA M 9 (1000 * t + i) = 0) := fun i hi => by
      constructor
      · intro q
        refine Classical.byContradiction (fun z => ?_)
        obtain ⟨j, c1, c2, c3⟩ := hc.2.2.1 i hi z
        have := hc.lt c1
        rw [c3] at q
        exact nI_nle (by omega) (by omega) q
      · intro q; rw [q]; decide
    have := fgL_1 hz 1000 0 0 M (fun _ _ => rfl) (by omega)
    have e0 : ct (kB M t) 0 = 0 := rfl
    rw [uaL_1, lcL_cnt, hc.2.2.2]
    rw [show 0 + 1000 = 1000 from rfl] at this
    unfold cntK; omega
/-- heads have names -/
def Hh (n : Nat) (C : CS) : Prop := ∀ b, isB n b → ∀ a, kAt C 6 b a = 1 → ∃ nm, nm < 1000 ∧ kAt C 7 b a = nI nm
/-! a whole file, on both sides -/
theorem ifL_iff {C : CS} {M : MS} {t i z : Nat} (hb : ∀ a, a < 100 → Rk C M t a) (hz : i + z + 1 < 100) : ∀ (k idx : Nat), idx + k = z + 1 → (ifL M (100 * t + i) z (k + 1) idx = true ↔ (datL C t k (i + idx) = true ∧ tellsP C t (i + z + 1) 3)) := by
  intro k
  induction k with
  | zero =>
    intro idx he
    have hi : idx = z + 1 := by omega
    subst hi
    obtain ⟨r1, _, _, r4⟩ := hb (i + z + 1) hz
    unfold ifL ifL datL tellsP dmgP
    rw [if_pos (show z < z + 1 by omega), show 100 * t + i + (z + 1) = 100 * t + (i + z + 1) by omega, r1]
    constructor
    · intro h
      split at h
      · rename_i q; exact ⟨rfl, q.1, fun w => w.2 (r4.mp q.2)⟩
      · cases h
    · intro h
      rw [if_pos ⟨h.2.1, r4.mpr (Classical.byContradiction (fun w => h.2.2 ⟨hz, w⟩))⟩]
  | succ k ih =>
    intro idx he
    obtain ⟨r1, _, _, r4⟩ := hb (i + idx) (by omega)
    have := ih (idx + 1) (by omega)
    rw [show ifL M (100 * t + i) z (k + 1 + 1) idx = (if mA M 5 (100 * t + i + idx) = (if z < idx then 3 else 2) ∧ mA M 8 (100 * t + i + idx) = 0 then ifL M (100 * t + i) z (k + 1) (idx + 1) else false) from rfl]
    rw [show datL C t (k + 1) (i + idx) = (decide (tellsP C t (i + idx) 2) && datL C t k (i + idx + 1)) from rfl]
    rw [if_neg (show ¬ z < idx by omega), show 100 * t + i + idx = 100 * t + (i + idx) by omega, r1]
    have hi1 : i + (idx + 1) = i + idx + 1 := by omega
    rw [hi1] at this
    by_cases q : kAt C 6 t (i + idx) = 2 ∧ mA M 8 (100 * t + (i + idx)) = 0
    · rw [if_pos q, this]
      have ht : tellsP C t (i + idx) 2 := ⟨q.1, fun w => w.2 (r4.mp q.2)⟩
      rw [decide_eq_true ht, Bool.true_and]
    · rw [if_neg q]
      have ht : ¬ tellsP C t (i + idx) 2 := fun w => q ⟨w.1, r4.mpr (Classical.byContradiction (fun v => w.2 ⟨by omega, v⟩))⟩
      rw [decide_eq_false ht, Bool.false_and]
      constructor
      · intro h; cases h
      · intro h; cases h.1
theorem tf_iff {C : CS} {M : MS} {t i e0 : Nat} (hb : ∀ a, a < 100 → Rk C M t a) (he : cN C 5 t 3 = e0) (he1 : e0 ≤ 100) (hi : i < e0) (hI : Iv C) : isFp M t i e0 (mN M 7 (100 * t + i)) ↔ tfP C t i := by
  obtain ⟨r1, _, r3, r4⟩ := hb i (by omega)
  have hz : mN M 7 (100 * t + i) = zN C t i := by unfold mN zN; rw [r3]
  rw [hz]
  unfold isFp if0 tfP
  rw [r1, r4]
  by_cases q : i + zN C t i + 1 < e0
  · have h1 := ifL_iff (C := C) (M := M) (t := t) (i := i) (z := zN C t i) hb (by omega) (zN C t i) 1 (by omega)
    rw [h1]
    have h2 : tellsP C t i 1 ↔ (kAt C 6 t i = 1 ∧ cB C 10 t i = 0) := ⟨fun w => ⟨w.1, Classical.byContradiction (fun v => w.2 ⟨by omega, v⟩)⟩, fun w => ⟨w.1, fun v => v.2 w.2⟩⟩
    constructor
    · intro h; exact ⟨h2.mpr ⟨h.1.1, h.1.2.2⟩, h.2.2, h.2.1⟩
    · intro h; exact ⟨⟨(h2.mp h.1).1, q, (h2.mp h.1).2⟩, h.2.2, h.2.1⟩
  · constructor
    · intro h; exact absurd h.1.2.1 q
    · intro h
      have := h.2.1.1
      unfold kAt at this
      rw [if_neg (by omega)] at this
      exact absurd this (by decide)
theorem mliL_A {t e0 j' i' : Nat} (h : j' ≠ 9) : ∀ (k i n : Nat) (M : MS), mA (mliL t e0 k i n M).2 j' i' = mA M j' i' := by
  intro k
  induction k with
  | zero => intro i n M; rfl
  | succ k ih => intro i n M; unfold mliL; split; rw [ih, mA_nj h]; exact ih _ _ _
theorem mliL_F {t e0 : Nat} : ∀ (k i n : Nat) (M : MS), mF (mliL t e0 k i n M).2 = mF M := by
  intro k
  induction k with
  | zero => intro i n M; rfl
  | succ k ih => intro i n M; unfold mliL; split; rw [ih]; rfl; exact ih _ _ _
theorem unl_F {C : CS} {t : Nat} {o : Option Nat} : cF (unl C t o) = cF C ∧ cM (unl C t o) = cM C := by cases o <;> exact ⟨rfl, rfl⟩
theorem listC_F {C : CS} {t h : Nat} : cF (listC C t h) = cF C ∧ cM (listC C t h) = cM C := by unfold listC; rw [cF_sB, cM_sB]; exact unl_F
theorem latL_F {t : Nat} : ∀ (k i : Nat) (C : CS), cF (latL t k i C) = cF C ∧ cM (latL t k i C) = cM C := by
  intro k
  induction k with
  | zero => intro i C; exact ⟨rfl, rfl⟩
  | succ k ih => intro i C; unfold latL; rw [(ih _ _).1, (ih _ _).2]; split; exact listC_F; exact ⟨rfl, rfl⟩
theorem latL_B {t f b a : Nat} (h : f ≠ 11 ∨ b ≠ t) : ∀ (k i : Nat) (C : CS), cB (latL t k i C) f b a = cB C f b a := by
  intro k
  induction k with
  | zero => intro i C; rfl
  | succ k ih => intro i C; unfold latL; rw [ih]; split; rw [cB_listC, if_neg (by omega)]; rfl
theorem lat_b {t e0 : Nat} (he1 : e0 ≤ 100) : ∀ (k i cnt : Nat) (C : CS) (M : MS), i + k = e0 → cN C 5 t 3 = e0 → Iv C → (∀ a, a < 100 → Rk C M t a) → (∀ a, kAt C 6 t a = 1 → ∃ nm, nm < 1000 ∧ kAt C 7 t a = nI nm) → Rcat C M t → cnt = cntK M t →
    Rcat (latL t k i C) (mliL t e0 k i cnt M).2 t ∧ (mliL t e0 k i cnt M).1 = cntK (mliL t e0 k i cnt M).2 t ∧ (∀ t' nm, t' ≠ t → nm < 1000 → mA (mliL t e0 k i cnt M).2 9 (1000 * t' + nm) = mA M 9 (1000 * t' + nm)) := by
  intro k
  induction k with
  | zero => intro i cnt C M _ _ _ _ _ hc hn; exact ⟨hc, hn, fun _ _ _ _ => rfl⟩
  | succ k ih =>
    intro i cnt C M hk he hI hb hN hc hn
    have htf := tf_iff hb he he1 (show i < e0 by omega) hI
    unfold latL mliL
    by_cases q : tfP C t i
    · rw [if_pos q, if_pos (htf.mpr q)]
      obtain ⟨nm, hn1, hn2⟩ := hN i q.1.1
      have hv6 : mA M 6 (100 * t + i) = nI nm := (hb i (by omega)).2.1.trans hn2
      have hmN : mN M 6 (100 * t + i) = nm := mN_of hv6 (by omega)
      rw [hmN]
      have hfit : i + zN C t i + 1 < cN C 5 t 3 := by
        have := q.2.1.1
        refine Classical.byContradiction (fun w => ?_)
        unfold kAt at this
        rw [if_neg w] at this
        exact absurd this (by decide)
      obtain ⟨c1, c2⟩ := cat_list hc (by omega) hn1 q.1.1 hn2 hfit (fun j hj => by
        have lj := hc.lt hj
        obtain ⟨nm2, a1, a2⟩ := hN j (hc.1 j hj).1
        unfold kAt at a2; rw [if_pos lj] at a2
        exact ⟨nm2, a1, a2⟩)
      have := ih (i + 1) (if mA M 9 (1000 * t + nm) = 0 then cnt + 1 else cnt) (listC C t i) (smA M 9 (1000 * t + nm) (nI (i + 1))) (by omega) (by rw [cN_listC]; exact he) (Iv_listC hI) (fun a ha => Rk_of (hb a ha) (by rw [cN_listC]) (fun f hf => by rw [cB_listC, if_neg (by omega)]) (fun j' i' _ _ => mA_nj (by omega))) (fun a => by rw [kAt_listC (by decide), kAt_listC (by decide)]; exact hN a) c1 (by rw [c2, hn])
      refine ⟨this.1, this.2.1, fun t' nm' h1 h2 => ?_⟩
      rw [this.2.2 t' nm' h1 h2, mA_ni (by omega)]
    · rw [if_neg q, if_neg (fun w => q (htf.mp w))]
      exact ih (i + 1) cnt C M (by omega) he hI hb hN hc hn
