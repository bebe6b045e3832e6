/-! ===== the class: its helpers and jobs ===== -/
abbrev nameP (x : Int32) : Prop := ¬ x < 0 ∧ ¬ 1000 ≤ x
abbrev placeP (x : Int32) : Prop := ¬ x < 0 ∧ ¬ 100 ≤ x
abbrev badT (n : Nat) (x : Int32) : Prop := x < 0 ∨ nI n ≤ x
theorem tape_arg {n : Nat} (hn : n ≤ 12) (x : Int32) : badT n x ∨ ∃ t, t < n ∧ x = nI t := by
  rcases pk_ix x (n := n) (by omega) with h | h | h
  · exact Or.inl (Or.inl h)
  · exact Or.inl (Or.inr h)
  · exact Or.inr h
def hmL (C : CS) (x : Int32) : Nat → Nat → Bool
  | 0, _ => false
  | k + 1, j => if nI (cN C 9 j 0) = x then true else hmL C x k (j + 1)
def cou1 (C : CS) : CS := sF C 0 0 5 (cF C 0 0 5 + 1)
def couC (C : CS) (w : Int32) : CS := if 0 ≤ w then cou1 C else sF (cou1 C) 0 0 6 (cF C 0 0 6 + 1)
abbrev rdyP (C : CS) (d : Nat) : Prop := cF C 3 d 4 = 0 ∧ cM C d = none
def ndS (C : CS) (t j : Nat) (o : Option Nat) : Option Nat := if rdyP C j then (match o with
  | none => some j
  | some d => if dist (cN C 9 t 0) d ≤ dist (cN C 9 t 0) j then some d else some j) else o
def ndL (C : CS) (t : Nat) : Nat → Nat → Option Nat → Option Nat
  | 0, _, o => o
  | k + 1, j, o => ndL C t k (j + 1) (ndS C t j o)
def ndC (C : CS) (t : Nat) : Option Nat := ndL C t 3 0 none
def wsL (d t : Nat) : Nat → Nat → Int32 → CS → Int32 × CS
  | 0, _, w, C => (w, C)
  | k + 1, j, w, C => if w ≠ 0 then (w, C) else wsL d t k (j + 1) (wriC C d t 12 j).1 (wriC C d t 12 j).2
def ws1 (C : CS) (d t h : Nat) : Int32 × CS := wsL d t (cN C 5 12 3) 0 (windC C d h).1 (windC C d h).2
def wsC (C : CS) (d t h : Nat) : Int32 × CS := endC (ws1 C d t h).2 d t h (ws1 C d t h).1
def cop1 (C : CS) (d t : Nat) : Int32 × CS := if (carC C d t).1 ≠ 0 then carC C d t else wsC (carC C d t).2 d t (cN (carC C d t).2 5 t 3)
def copD (C : CS) (d t : Nat) : Int32 × CS := ((cop1 C d t).1, if (cop1 C d t).1 < 0 then briC (cop1 C d t).2 d t else listC (briC (cop1 C d t).2 d t) t (cop1 C d t).1.toNatClampNeg)
def copC (C : CS) (t : Nat) : Int32 × CS := match ndC C t with
  | none => (-3, C)
  | some d => copD C d t
def rfS (C : CS) (t a : Nat) (w : Int32) : CS := if w ≠ 0 then C else if kAt C 6 t a = 2 then sF C 0 0 7 (31 * cF C 0 0 7 + kAt C 7 t a) else C
def rfL (d t : Nat) : Nat → Nat → Int32 → CS → Int32 × CS
  | 0, _, w, C => (w, C)
  | k + 1, a, w, C => if w ≠ 0 then (w, C) else rfL d t k (a + 1) (reaC C d t).1 (rfS (reaC C d t).2 t a (reaC C d t).1)
def rf1 (C : CS) (d t h : Nat) : Int32 × CS := rfL d t (zN C t h + 2) h (windC (sF C 0 0 7 1) d h).1 (windC (sF C 0 0 7 1) d h).2
def rfC (C : CS) (d t h : Nat) : Int32 × CS := (if (rf1 C d t h).1 ≠ 0 then (rf1 C d t h).1 else nI (zN C t h), (rf1 C d t h).2)
def rj1 (C : CS) (d t h : Nat) : Int32 × CS := if (carC C d t).1 ≠ 0 then carC C d t else rfC (carC C d t).2 d t h
def rjC (C : CS) (t h : Nat) : Int32 × CS := match ndC C t with
  | none => (-3, C)
  | some d => ((rj1 C d t h).1, briC (rj1 C d t h).2 d t)
def mv2 (C : CS) (d2 t2 t1 a : Nat) (w : Int32) : Int32 × CS := if w ≠ 0 then (w, C) else wriC C d2 t2 t1 a
def mvL (d1 t1 d2 t2 : Nat) : Nat → Nat → Int32 → CS → Int32 × CS
  | 0, _, w, C => (w, C)
  | k + 1, a, w, C => if w ≠ 0 then (w, C) else mvL d1 t1 d2 t2 k (a + 1) (mv2 (reaC C d1 t1).2 d2 t2 t1 a (reaC C d1 t1).1).1 (mv2 (reaC C d1 t1).2 d2 t2 t1 a (reaC C d1 t1).1).2
def mvW (C : CS) (d1 d2 p h : Nat) : Int32 × CS := if (windC C d1 p).1 ≠ 0 then windC C d1 p else windC (windC C d1 p).2 d2 h
def mv1 (C : CS) (d1 t1 d2 t2 p h : Nat) : Int32 × CS := mvL d1 t1 d2 t2 (zN C t1 p + 2) p (mvW C d1 d2 p h).1 (mvW C d1 d2 p h).2
def mvC (C : CS) (d1 t1 d2 t2 p h : Nat) : Int32 × CS := endC (mv1 C d1 t1 d2 t2 p h).2 d2 t2 h (mv1 C d1 t1 d2 t2 p h).1
def mi1 (C : CS) (d1 t1 d2 t2 p : Nat) : Int32 × CS := if (carC C d2 t2).1 ≠ 0 then carC C d2 t2 else mvC (carC C d2 t2).2 d1 t1 d2 t2 p (cN (carC C d2 t2).2 5 t2 3)
def miC (C : CS) (d1 t1 t2 p : Nat) : Int32 × CS := match ndC C t2 with
  | none => (-3, C)
  | some d2 => ((mi1 C d1 t1 d2 t2 p).1, briC (mi1 C d1 t1 d2 t2 p).2 d2 t2)
def mj1 (C : CS) (d t1 p t2 : Nat) : Int32 × CS := if (carC C d t1).1 ≠ 0 then carC C d t1 else miC (carC C d t1).2 d t1 t2 p
def mjD (C : CS) (d t1 p t2 : Nat) : Int32 × CS := ((mj1 C d t1 p t2).1, if (mj1 C d t1 p t2).1 < 0 then briC (mj1 C d t1 p t2).2 d t1 else sB (listC (briC (mj1 C d t1 p t2).2 d t1) t2 (mj1 C d t1 p t2).1.toNatClampNeg) 11 t1 p 0)
def mjC (C : CS) (t1 p t2 : Nat) : Int32 × CS := match ndC C t1 with
  | none => (-3, C)
  | some d => mjD C d t1 p t2
def sj1 (C : CS) (d t : Nat) : Int32 × CS := if (carC C d t).1 ≠ 0 then carC C d t else lookC (carC C d t).2 d t
def sjD (C : CS) (d t : Nat) : Int32 × CS := if (sj1 C d t).1 ≠ 0 then ((sj1 C d t).1, briC (sj1 C d t).2 d t) else (nI (lcL (latC (briC (sj1 C d t).2 d t) t) t 100 0 0), latC (briC (sj1 C d t).2 d t) t)
def sjC (C : CS) (t : Nat) : Int32 × CS := match ndC C t with
  | none => (-3, C)
  | some d => sjD C d t
/-! what they keep: Sm: no block, no catalogue, no mounted tape changes; small numbers outside drives stay -/
def Sm (C C' : CS) : Prop := (∀ f i k, f ≠ 3 → cN C' f i k = cN C f i k) ∧ cB C' = cB C ∧ cM C' = cM C
theorem Sm.rf {C : CS} : Sm C C := ⟨fun _ _ _ _ => rfl, rfl, rfl⟩
theorem Sm.tr {C C' C2 : CS} (h : Sm C C') (h2 : Sm C' C2) : Sm C C2 := ⟨fun f i k q => (h2.1 f i k q).trans (h.1 f i k q), h2.2.1.trans h.2.1, h2.2.2.trans h.2.2⟩
theorem Sm.I {C C' : CS} (h : Sm C C') (hI : Iv C) : Iv C' := Iv_of hI (fun b => h.1 _ _ _ (by decide)) (fun b j => by rw [h.2.1]) (fun t => h.1 _ _ _ (by decide))
theorem Sm.k {C C' : CS} (h : Sm C C') (f b a : Nat) : kAt C' f b a = kAt C f b a := by unfold kAt; rw [h.1 5 b 3 (by decide), h.2.1]
theorem Sm_F {C : CS} {f i k : Nat} {v : Int32} : Sm C (sF C f i k v) := ⟨fun _ _ _ _ => rfl, rfl, rfl⟩
theorem Sm_N {C : CS} {i k v : Nat} : Sm C (sN C 3 i k v) := ⟨fun f' i' k' h => by rw [cN_sN, if_neg (by omega)], rfl, rfl⟩
theorem Sm_wk {C : CS} : Sm C (wkC C) := ⟨fun f i k _ => by rw [wkC_N], wkC_B C, wkC_M C⟩
theorem Sm_wind {d : Nat} : ∀ (k : Nat) (C : CS), Sm C (windL d k C).2 := by
  intro k
  induction k with
  | zero => intro C; exact Sm.rf
  | succ k ih => intro C; unfold windL; split; exact (Sm_wk.tr Sm_N).tr (ih _); exact Sm_wk
theorem Sm_windC {C : CS} {d q : Nat} : Sm C (windC C d q).2 := Sm_wind _ _
theorem Sm_pas {C : CS} {d : Nat} : Sm C (pasC C d).2 := ⟨fun f i k h => pasC_N _ _ _ _ _ (Or.inl h), pasC_B C d, pasC_M C d⟩
theorem Sm_rea {C : CS} {d t : Nat} : Sm C (reaC C d t).2 := by rw [reaC_2]; exact Sm_pas
theorem Sm_rfS {C : CS} {t a : Nat} {w : Int32} : Sm C (rfS C t a w) := by unfold rfS; split; exact Sm.rf; split; exact Sm_F; exact Sm.rf
theorem Sm_rfL {d t : Nat} : ∀ (k a : Nat) (w : Int32) (C : CS), Sm C (rfL d t k a w C).2 := by
  intro k
  induction k with
  | zero => intro a w C; exact Sm.rf
  | succ k ih => intro a w C; unfold rfL; split; exact Sm.rf; exact (Sm_rea.tr Sm_rfS).tr (ih _ _ _)
theorem Sm_rfC {C : CS} {d t h : Nat} : Sm C (rfC C d t h).2 := (Sm_F.tr Sm_windC).tr (Sm_rfL _ _ _ _)
theorem Sm_lt {d t : Nat} : ∀ (k : Nat) (w : Int32) (C : CS), Sm C (ltL d t k w C).2 := by
  intro k
  induction k with
  | zero => intro w C; exact Sm.rf
  | succ k ih => intro w C; unfold ltL; split; exact Sm_rea.tr (ih _ _); exact Sm.rf
theorem Sm_carL {d : Nat} : ∀ (k : Nat) (C : CS), Sm C (carL d k C).2 := by
  intro k
  induction k with
  | zero => intro C; exact Sm.rf
  | succ k ih => intro C; unfold carL; split; exact (Sm_wk.tr Sm_N).tr (ih _); exact Sm_wk
theorem Sm_carC {C : CS} {d t : Nat} : Sm (sM C d (some t)) (carC C d t).2 := by
  unfold carC carE
  split
  · exact ((Sm_N.tr Sm_N).tr (Sm_carL _ _)).tr (Sm_F.tr Sm_F)
  · exact (Sm_N.tr Sm_N).tr (Sm_carL _ _)
theorem carC_M {C : CS} {d t : Nat} (d' : Nat) : cM (carC C d t).2 d' = if d' = d then some t else cM C d' := by rw [Sm_carC.2.2, cM_sM]
theorem carC_I {C : CS} {d t : Nat} (hI : Iv C) : Iv (carC C d t).2 := Sm_carC.I (Iv_M hI)
theorem carC_N {C : CS} {d t f i k : Nat} (h : f ≠ 3) : cN (carC C d t).2 f i k = cN C f i k := by rw [Sm_carC.1 _ _ _ h]; rfl
theorem carL_N3 {d : Nat} (d' k' : Nat) (h : d' ≠ d ∨ k' ≠ 7) : ∀ (k : Nat) (C : CS), cN (carL d k C).2 3 d' k' = cN C 3 d' k' := by
  intro k
  induction k with
  | zero => intro C; rfl
  | succ k ih => intro C; unfold carL; split; rw [ih, cN_sN, if_neg (by omega), wkC_N]; show cN (wkC C) 3 d' k' = _; rw [wkC_N]
theorem carC_N3 {C : CS} {d t : Nat} (d' k' : Nat) (h : d' ≠ d ∨ k' ≠ 7) : cN (carC C d t).2 3 d' k' = if d' = d ∧ k' = 8 then 0 else cN C 3 d' k' := by
  have h1 : cN (carC C d t).2 3 d' k' = cN (sN (sN (sM C d (some t)) 3 d 8 0) 3 d 7 0) 3 d' k' := by
    unfold carC carE
    split
    · rw [cN_sF, cN_sF, carL_N3 d' k' h]
    · rw [carL_N3 d' k' h]
  rw [h1, cN_sN, if_neg (by omega), cN_sN]
  by_cases q : d' = d ∧ k' = 8
  · rw [if_pos ⟨q.2, rfl, q.1⟩, if_pos q]
  · rw [if_neg (fun z => q ⟨z.2.2, z.1⟩), if_neg q]; rfl
theorem carC_pos {C : CS} {d t : Nat} : cN (carC C d t).2 3 d 8 = 0 := by rw [carC_N3 d 8 (Or.inr (by decide)), if_pos ⟨rfl, rfl⟩]
theorem windL_N3 {d : Nat} (d' k' : Nat) (h : d' ≠ d ∨ k' ≠ 8) : ∀ (k : Nat) (C : CS), cN (windL d k C).2 3 d' k' = cN C 3 d' k' := by
  intro k
  induction k with
  | zero => intro C; rfl
  | succ k ih => intro C; unfold windL; split; rw [ih, cN_sN, if_neg (by omega), wkC_N]; show cN (wkC C) 3 d' k' = _; rw [wkC_N]
theorem windL_pos {d : Nat} : ∀ (k : Nat) (C : CS), cN (windL d k C).2 3 d 8 ≤ cN C 3 d 8 + k ∧ ((windL d k C).1 = 0 → cN (windL d k C).2 3 d 8 = cN C 3 d 8 + k) := by
  intro k
  induction k with
  | zero => intro C; exact ⟨Nat.le_refl _, fun _ => rfl⟩
  | succ k ih =>
    intro C; unfold windL; split
    · have := ih (sN (wkC C) 3 d 8 (cN (wkC C) 3 d 8 + 1))
      have e1 : cN (sN (wkC C) 3 d 8 (cN (wkC C) 3 d 8 + 1)) 3 d 8 = cN C 3 d 8 + 1 := by rw [cN_sN, if_pos ⟨rfl, rfl, rfl⟩, wkC_N]
      rw [e1] at this
      exact ⟨by have := this.1; omega, fun q => by have := this.2 q; omega⟩
    · show cN (wkC C) 3 d 8 ≤ _ ∧ _
      rw [wkC_N]
      exact ⟨by omega, fun q => absurd q (show ¬ ((-4 : Int32) = 0) by decide)⟩
theorem windC_pos {C : CS} {d q : Nat} (h : cN C 3 d 8 ≤ q) : cN (windC C d q).2 3 d 8 ≤ q := by
  have := (windL_pos (d := d) (q - cN C 3 d 8) C).1
  unfold windC; omega
theorem wriC_M (C : CS) (d t b a : Nat) : cM (wriC C d t b a).2 = cM C := by
  unfold wriC; split; rfl; split; exact pasC_M C d; show cM (addC _ _ _ _ _) = _; rw [addC_M, pasC_M]
theorem wriC_I {C : CS} {d t b a : Nat} (hI : Iv C) : Iv (wriC C d t b a).2 := by
  unfold wriC; split; exact hI; split; exact Iv_pas hI; exact Iv_add (Iv_pas hI) (kAt_cl (Iv_pas hI) _ _)
theorem addC_N {C : CS} {b : Nat} {k v z : Int32} (f i k' : Nat) (h : f ≠ 5 ∨ i ≠ b) : cN (addC C b k v z) f i k' = cN C f i k' := by
  unfold addC; split; rfl; rw [cN_sN, if_neg (by omega)]; rfl
theorem wriC_N {C : CS} {d t b a : Nat} (f i k : Nat) (h1 : f ≠ 3 ∨ k ≠ 8 ∨ i ≠ d) (h2 : f ≠ 5 ∨ i ≠ t) : cN (wriC C d t b a).2 f i k = cN C f i k := by
  unfold wriC; split; rfl; split; exact pasC_N _ _ _ _ _ h1; show cN (addC _ _ _ _ _) f i k = _; rw [addC_N _ _ _ h2, pasC_N _ _ _ _ _ h1]
theorem cloC_M (C : CS) (d b : Nat) : cM (cloC C d b) = cM C := by
  unfold cloC; split; rfl; split; rfl; unfold clo1; rw [cM_sN, addC_M]; rfl
theorem cloC_I {C : CS} {d b : Nat} (hI : Iv C) : Iv (cloC C d b) := by
  unfold cloC; split; exact hI; split; exact hI; exact Iv_N (Iv_add (Iv_F hI) ⟨rfl, by decide⟩)
theorem endC_M (C : CS) (d t h : Nat) (w : Int32) : cM (endC C d t h w).2 = cM C := by
  unfold endC; split
  · show cM (if cN C 5 t 3 ≤ h then C else cloC C d t) = _
    split; rfl; exact cloC_M C d t
  · rfl
theorem endC_I {C : CS} {d t h : Nat} {w : Int32} (hI : Iv C) : Iv (endC C d t h w).2 := by
  unfold endC; split
  · show Iv (if cN C 5 t 3 ≤ h then C else cloC C d t)
    split; exact hI; exact cloC_I hI
  · exact hI
theorem wsL_M {d t : Nat} : ∀ (k j : Nat) (w : Int32) (C : CS), cM (wsL d t k j w C).2 = cM C := by
  intro k
  induction k with
  | zero => intro j w C; rfl
  | succ k ih => intro j w C; unfold wsL; split; rfl; rw [ih, wriC_M]
theorem wsL_I {d t : Nat} : ∀ (k j : Nat) (w : Int32) (C : CS), Iv C → Iv (wsL d t k j w C).2 := by
  intro k
  induction k with
  | zero => intro j w C h; exact h
  | succ k ih => intro j w C h; unfold wsL; split; exact h; exact ih _ _ _ (wriC_I h)
theorem ws1_M (C : CS) (d t h : Nat) : cM (ws1 C d t h).2 = cM C := by unfold ws1; rw [wsL_M]; exact Sm_windC.2.2
theorem ws1_I {C : CS} {d t h : Nat} (hI : Iv C) : Iv (ws1 C d t h).2 := wsL_I _ _ _ _ (Sm_windC.I hI)
theorem wsC_M (C : CS) (d t h : Nat) : cM (wsC C d t h).2 = cM C := by unfold wsC; rw [endC_M, ws1_M]
theorem wsC_I {C : CS} {d t h : Nat} (hI : Iv C) : Iv (wsC C d t h).2 := endC_I (ws1_I hI)
theorem briC_M (C : CS) (d t d' : Nat) : cM (briC C d t) d' = if d' = d then none else cM C d' := by unfold briC bri2 bri1; rw [cM_sM]; rfl
theorem briC_I {C : CS} {d t : Nat} (hI : Iv C) : Iv (briC C d t) := Iv_of hI (fun _ => rfl) (fun _ _ => rfl) (fun _ => rfl)
theorem mv2_M (C : CS) (d2 t2 t1 a : Nat) (w : Int32) : cM (mv2 C d2 t2 t1 a w).2 = cM C := by unfold mv2; split; rfl; exact wriC_M _ _ _ _ _
theorem mv2_I {C : CS} {d2 t2 t1 a : Nat} {w : Int32} (hI : Iv C) : Iv (mv2 C d2 t2 t1 a w).2 := by unfold mv2; split; exact hI; exact wriC_I hI
theorem mvL_M {d1 t1 d2 t2 : Nat} : ∀ (k a : Nat) (w : Int32) (C : CS), cM (mvL d1 t1 d2 t2 k a w C).2 = cM C := by
  intro k
  induction k with
  | zero => intro a w C; rfl
  | succ k ih => intro a w C; unfold mvL; split; rfl; rw [ih, mv2_M, Sm_rea.2.2]
theorem mvL_I {d1 t1 d2 t2 : Nat} : ∀ (k a : Nat) (w : Int32) (C : CS), Iv C → Iv (mvL d1 t1 d2 t2 k a w C).2 := by
  intro k
  induction k with
  | zero => intro a w C h; exact h
  | succ k ih => intro a w C h; unfold mvL; split; exact h; exact ih _ _ _ (mv2_I (Sm_rea.I h))
theorem Sm_mvW {C : CS} {d1 d2 p h : Nat} : Sm C (mvW C d1 d2 p h).2 := by unfold mvW; split; exact Sm_windC; exact Sm_windC.tr Sm_windC
theorem mvC_M (C : CS) (d1 t1 d2 t2 p h : Nat) : cM (mvC C d1 t1 d2 t2 p h).2 = cM C := by unfold mvC mv1; rw [endC_M, mvL_M]; exact Sm_mvW.2.2
theorem mvC_I {C : CS} {d1 t1 d2 t2 p h : Nat} (hI : Iv C) : Iv (mvC C d1 t1 d2 t2 p h).2 := endC_I (mvL_I _ _ _ _ (Sm_mvW.I hI))
theorem mi1_M (C : CS) (d1 t1 d2 t2 p d' : Nat) : cM (mi1 C d1 t1 d2 t2 p).2 d' = if d' = d2 then some t2 else cM C d' := by
  unfold mi1; split; exact carC_M d'; rw [mvC_M]; exact carC_M d'
theorem mi1_I {C : CS} {d1 t1 d2 t2 p : Nat} (hI : Iv C) : Iv (mi1 C d1 t1 d2 t2 p).2 := by unfold mi1; split; exact carC_I hI; exact mvC_I (carC_I hI)
/-! the nearest drive -/
theorem ndS_some {C : CS} {t j i : Nat} {o : Option Nat} (h : ndS C t j o = some i) : (i = j ∧ rdyP C j) ∨ o = some i := by
  unfold ndS at h
  split at h
  · rename_i hr
    split at h
    · cases h; exact Or.inl ⟨rfl, hr⟩
    · split at h
      · cases h; exact Or.inr rfl
      · cases h; exact Or.inl ⟨rfl, hr⟩
  · exact Or.inr h
theorem ndL_some {C : CS} {t i : Nat} : ∀ (k j : Nat) (o : Option Nat), ndL C t k j o = some i → (j ≤ i ∧ i < j + k ∧ rdyP C i) ∨ o = some i := by
  intro k
  induction k with
  | zero => intro j o h; exact Or.inr h
  | succ k ih =>
    intro j o h
    rcases ih (j + 1) _ h with q | q
    · exact Or.inl ⟨by omega, by omega, q.2.2⟩
    · rcases ndS_some q with ⟨rfl, z⟩ | z
      · exact Or.inl ⟨by omega, by omega, z⟩
      · exact Or.inr z
theorem nd_some {C : CS} {t d : Nat} (h : ndC C t = some d) : d < 3 ∧ rdyP C d := by
  rcases ndL_some _ _ _ h with q | q
  · exact ⟨by omega, q.2.2⟩
  · cases q
theorem miC_M {C : CS} {d1 t1 t2 p : Nat} {d' : Nat} : cM (miC C d1 t1 t2 p).2 d' = cM C d' := by
  unfold miC
  split
  · rfl
  · rename_i d2 h
    show cM (briC _ _ _) d' = _
    rw [briC_M]
    split
    · rename_i q; subst q; exact (nd_some h).2.2.symm
    · rw [mi1_M, if_neg (by assumption)]
theorem miC_I {C : CS} {d1 t1 t2 p : Nat} (hI : Iv C) : Iv (miC C d1 t1 t2 p).2 := by
  unfold miC; split; exact hI; exact briC_I (mi1_I hI)

set_option maxHeartbeats 4000000 in
set_option maxRecDepth 100000 in
theorem c_X4_isName (l : Launch) (G : GG) (C : CS) (M : MS) (x : Int32) : Ct l G yX4_isName cX4_isName 1 (some .boolean) 0 0 [.int x] C M (some (.int (bI (nameP x)))) C M := by
  refine Ct_z (by decide) (Nat.le_of_ble_eq_true rfl) (bI_01 _) (fun {p e s m args below meth c A Q ls} hC hW hl hE => ?_)
  have hx := hC.1
  have hb := hC.2.1
  have hl : lv_has ls 1 [(0, .int x)] := hl
  refine lv_iload_n hx hb dX4_isName_0 rfl (lv_at hl 0 rfl) ?_
  refine lv_if_lt (tgt := 15) hx hb dX4_isName_1 (by decide) (fun h1 => ?_) (fun h1 => ?_)
  · refine lv_iconst (v := 0) hx hb dX4_isName_15 (by decide) ?_
    have qr : (0 : Int32) = bI (nameP x) := by simp [bI, h1, cF_sF, cN_sN, cB_sB, cM_sM, cN_sF, cB_sF, cM_sF, cF_sN, cB_sN, cM_sN, cF_sB, cN_sB, cM_sB, cF_sM, cN_sM, cB_sM, mF_smF, mA_smF, mF_smA, mA_smA]
    exact hE hW qr dX4_isName_16
  · refine lv_iload_n hx hb dX4_isName_4 rfl (lv_at hl 0 rfl) ?_
    refine lv_sipush (v := 1000) hx hb dX4_isName_5 (by decide) ?_
    refine lv_icmp_ge (tgt := 15) hx hb dX4_isName_8 (by decide) (fun h8 => ?_) (fun h8 => ?_)
    · refine lv_iconst (v := 0) hx hb dX4_isName_15 (by decide) ?_
      have qr : (0 : Int32) = bI (nameP x) := by simp [bI, h1, h8, cF_sF, cN_sN, cB_sB, cM_sM, cN_sF, cB_sF, cM_sF, cF_sN, cB_sN, cM_sN, cF_sB, cN_sB, cM_sB, cF_sM, cN_sM, cB_sM, mF_smF, mA_smF, mF_smA, mA_smA]
      exact hE hW qr dX4_isName_16
    · refine lv_iconst (v := 1) hx hb dX4_isName_11 (by decide) ?_
      refine lv_goto (tgt := 16) hx hb dX4_isName_12 (by decide) ?_
      have qr : (1 : Int32) = bI (nameP x) := by simp [bI, h1, h8, cF_sF, cN_sN, cB_sB, cM_sM, cN_sF, cB_sF, cM_sF, cF_sN, cB_sN, cM_sN, cF_sB, cN_sB, cM_sB, cF_sM, cN_sM, cB_sM, mF_smF, mA_smF, mF_smA, mA_smA]
      exact hE hW qr dX4_isName_16

set_option maxHeartbeats 4000000 in
set_option maxRecDepth 100000 in
theorem c_X4_isPlace (l : Launch) (G : GG) (C : CS) (M : MS) (x : Int32) : Ct l G yX4_isPlace cX4_isPlace 1 (some .boolean) 0 0 [.int x] C M (some (.int (bI (placeP x)))) C M := by
  refine Ct_z (by decide) (Nat.le_of_ble_eq_true rfl) (bI_01 _) (fun {p e s m args below meth c A Q ls} hC hW hl hE => ?_)
  have hx := hC.1
  have hb := hC.2.1
  have hl : lv_has ls 1 [(0, .int x)] := hl
  refine lv_iload_n hx hb dX4_isPlace_0 rfl (lv_at hl 0 rfl) ?_
  refine lv_if_lt (tgt := 14) hx hb dX4_isPlace_1 (by decide) (fun h1 => ?_) (fun h1 => ?_)
  · refine lv_iconst (v := 0) hx hb dX4_isPlace_14 (by decide) ?_
    have qr : (0 : Int32) = bI (placeP x) := by simp [bI, h1, cF_sF, cN_sN, cB_sB, cM_sM, cN_sF, cB_sF, cM_sF, cF_sN, cB_sN, cM_sN, cF_sB, cN_sB, cM_sB, cF_sM, cN_sM, cB_sM, mF_smF, mA_smF, mF_smA, mA_smA]
    exact hE hW qr dX4_isPlace_15
  · refine lv_iload_n hx hb dX4_isPlace_4 rfl (lv_at hl 0 rfl) ?_
    refine lv_bipush (v := 100) hx hb dX4_isPlace_5 (by decide) ?_
    refine lv_icmp_ge (tgt := 14) hx hb dX4_isPlace_7 (by decide) (fun h7 => ?_) (fun h7 => ?_)
    · refine lv_iconst (v := 0) hx hb dX4_isPlace_14 (by decide) ?_
      have qr : (0 : Int32) = bI (placeP x) := by simp [bI, h1, h7, cF_sF, cN_sN, cB_sB, cM_sM, cN_sF, cB_sF, cM_sF, cF_sN, cB_sN, cM_sN, cF_sB, cN_sB, cM_sB, cF_sM, cN_sM, cB_sM, mF_smF, mA_smF, mF_smA, mA_smA]
      exact hE hW qr dX4_isPlace_15
    · refine lv_iconst (v := 1) hx hb dX4_isPlace_10 (by decide) ?_
      refine lv_goto (tgt := 15) hx hb dX4_isPlace_11 (by decide) ?_
      have qr : (1 : Int32) = bI (placeP x) := by simp [bI, h1, h7, cF_sF, cN_sN, cB_sB, cM_sM, cN_sF, cB_sF, cM_sF, cF_sN, cB_sN, cM_sN, cF_sB, cN_sB, cM_sB, cF_sM, cN_sM, cB_sM, mF_smF, mA_smF, mF_smA, mA_smA]
      exact hE hW qr dX4_isPlace_15

set_option maxHeartbeats 4000000 in
set_option maxRecDepth 100000 in
theorem c_X4_isHome (l : Launch) (G : GG) (C : CS) (M : MS) (h12 : zn G ≤ 12) (x : Int32) : Ct l G yX4_isHome cX4_isHome 3 (some .boolean) 0 0 [.ref (zad G 0 0), .int x] C M (some (.int (bI (hmL C x (zn G) 0 = true)))) C M := by
  refine Ct_z (by decide) (Nat.le_of_ble_eq_true rfl) (bI_01 _) (fun {p e s m args below meth c A Q ls} hC hW hl hE => ?_)
  have hx := hC.1
  have hb := hC.2.1
  have hl : lv_has ls 3 [(0, .ref (zad G 0 0)), (1, .int x)] := hl
  refine lv_iconst (v := 0) hx hb dX4_isHome_0 (by decide) ?_
  refine lv_istore_n (lv' := [(2, .int 0), (0, .ref (zad G 0 0)), (1, .int x)]) hx hb dX4_isHome_1 rfl hl (by decide) rfl (fun ls hl => ?_)
  have lp : ∀ (k : Nat) (j : Nat), j + k = zn G → hmL C x k j = hmL C x (zn G) 0 → ∀ (H : Heap) (locs : List Loc) (ls : Array Slot), Wd G s A s.heap H locs C M → lv_has ls 3 [(0, .ref (zad G 0 0)), (1, .int x), (2, .int (nI j))] → W p l e { frames := 0, cells := 0, slots := 0, locals := 0 } s m args below meth c H locs 0 0 Q (F0 m 2 ls []) := by
    intro k
    induction k with
    | zero =>
      intro j hk hD H locs ls hW hl
      refine lv_iload_n hx hb dX4_isHome_2 rfl (lv_at hl 2 rfl) ?_
      refine lv_aload_n hx hb dX4_isHome_3 rfl (lv_at hl 0 rfl) ?_
      refine g0 (k := 4) (v := .int (nI (zn G))) hC hW (by decide) mF_X4_48 rfl dX4_isHome_4 ?_
      refine zc_ge (i := j) (j := zn G) (tgt := 31) hx hb rfl rfl (by omega) (by omega) dX4_isHome_7 (by decide) (fun h7 => ?_) (fun h7 => ?_)
      · refine lv_iconst (v := 0) hx hb dX4_isHome_31 (by decide) ?_
        have qr : (0 : Int32) = bI (hmL C x (zn G) 0 = true) := by exact bI_f (by rw [← hD]; intro q; cases q)
        exact hE hW qr dX4_isHome_32
      · exact absurd h7 (by omega)
    | succ k ih =>
      intro j hk hD H locs ls hW hl
      refine lv_iload_n hx hb dX4_isHome_2 rfl (lv_at hl 2 rfl) ?_
      refine lv_aload_n hx hb dX4_isHome_3 rfl (lv_at hl 0 rfl) ?_
      refine g0 (k := 4) (v := .int (nI (zn G))) hC hW (by decide) mF_X4_48 rfl dX4_isHome_4 ?_
      refine zc_ge (i := j) (j := zn G) (tgt := 31) hx hb rfl rfl (by omega) (by omega) dX4_isHome_7 (by decide) (fun h7 => ?_) (fun h7 => ?_)
      · exact absurd h7 (by omega)
      · refine lv_aload_n hx hb dX4_isHome_10 rfl (lv_at hl 0 rfl) ?_
        refine g0 (k := 2) (v := .ref (zad G 4 0)) hC hW (by decide) mF_X4_27 rfl dX4_isHome_11 ?_
        refine lv_iload_n hx hb dX4_isHome_14 rfl (lv_at hl 2 rfl) ?_
        refine at9 (t := j) hC hW rfl (by omega) h12 dX4_isHome_15 ?_
        refine g9 (k := 0) (v := .int (nI (cN C 9 j 0))) hC hW (by omega) (by decide) mF_X4_132 rfl dX4_isHome_16 ?_
        refine lv_iload_n hx hb dX4_isHome_19 rfl (lv_at hl 1 rfl) ?_
        refine lv_icmp_ne (tgt := 25) hx hb dX4_isHome_20 (by decide) (fun h20 => ?_) (fun h20 => ?_)
        · refine lv_iinc (k := 2) (v := nI (j + 1)) (lv' := [(2, .int (nI (j + 1))), (0, .ref (zad G 0 0)), (1, .int x)]) hx hb dX4_isHome_25 hl rfl (nI_inc _) (by decide) rfl (fun ls hl => ?_)
          refine lv_goto (tgt := 2) hx hb dX4_isHome_28 (by decide) ?_
          exact ih (j + 1) (by omega) (by rw [← hD, hmL, if_neg h20]) _ _ _ hW (lv_sub hl [1, 2, 0] rfl)
        · refine lv_iconst (v := 1) hx hb dX4_isHome_23 (by decide) ?_
          have qr : (1 : Int32) = bI (hmL C x (zn G) 0 = true) := by exact bI_t (by rw [← hD, hmL, if_pos h20])
          exact hE hW qr dX4_isHome_24
  exact lp (zn G) 0 (by omega) rfl _ _ _ hW (lv_sub hl [1, 2, 0] rfl)

set_option maxHeartbeats 4000000 in
set_option maxRecDepth 100000 in
theorem c_X4_findTape (l : Launch) (G : GG) (C : CS) (M : MS) (h12 : zn G ≤ 12) {t : Nat} (ht : t < zn G) : Ct l G yX4_findTape cX4_findTape 2 (some (.object "TapeVault$Tape")) 0 0 [.ref (zad G 0 0), .int (nI t)] C M (some (.ref (zad G 9 t))) C M := by
  refine Ct_r (by decide) (Nat.le_of_ble_eq_true rfl) (Or.inr ⟨_, rfl⟩) (fun {p e s m args below meth c A Q ls} hC hW hl hE => ?_)
  have hx := hC.1
  have hb := hC.2.1
  have hl : lv_has ls 2 [(0, .ref (zad G 0 0)), (1, .int (nI t))] := hl
  refine lv_iload_n hx hb dX4_findTape_0 rfl (lv_at hl 1 rfl) ?_
  refine zf_lt (i := t) (tgt := 21) hx hb rfl (by omega) dX4_findTape_1 (by decide) ?_
  refine lv_iload_n hx hb dX4_findTape_4 rfl (lv_at hl 1 rfl) ?_
  refine lv_aload_n hx hb dX4_findTape_5 rfl (lv_at hl 0 rfl) ?_
  refine g0 (k := 4) (v := .int (nI (zn G))) hC hW (by decide) mF_X4_48 rfl dX4_findTape_6 ?_
  refine zc_ge (i := t) (j := zn G) (tgt := 21) hx hb rfl rfl (by omega) (by omega) dX4_findTape_9 (by decide) (fun h9 => ?_) (fun h9 => ?_)
  · exact absurd h9 (by omega)
  · refine lv_aload_n hx hb dX4_findTape_12 rfl (lv_at hl 0 rfl) ?_
    refine g0 (k := 2) (v := .ref (zad G 4 0)) hC hW (by decide) mF_X4_27 rfl dX4_findTape_13 ?_
    refine lv_iload_n hx hb dX4_findTape_16 rfl (lv_at hl 1 rfl) ?_
    refine at9 (t := t) hC hW rfl (by omega) h12 dX4_findTape_17 ?_
    refine lv_goto (tgt := 22) hx hb dX4_findTape_18 (by decide) ?_
    exact hE hW rfl dX4_findTape_22

set_option maxHeartbeats 4000000 in
set_option maxRecDepth 100000 in
theorem c_X4_findTape_n (l : Launch) (G : GG) (C : CS) (M : MS) (h12 : zn G ≤ 12) {x : Int32} (hbd : badT (zn G) x) : Ct l G yX4_findTape cX4_findTape 2 (some (.object "TapeVault$Tape")) 0 0 [.ref (zad G 0 0), .int x] C M (some (.null)) C M := by
  refine Ct_r (by decide) (Nat.le_of_ble_eq_true rfl) (Or.inl rfl) (fun {p e s m args below meth c A Q ls} hC hW hl hE => ?_)
  have hx := hC.1
  have hb := hC.2.1
  have hl : lv_has ls 2 [(0, .ref (zad G 0 0)), (1, .int x)] := hl
  refine lv_iload_n hx hb dX4_findTape_0 rfl (lv_at hl 1 rfl) ?_
  refine lv_if_lt (tgt := 21) hx hb dX4_findTape_1 (by decide) (fun h1 => ?_) (fun h1 => ?_)
  · refine lv_null hx hb dX4_findTape_21 ?_
    exact hE hW rfl dX4_findTape_22
  · refine lv_iload_n hx hb dX4_findTape_4 rfl (lv_at hl 1 rfl) ?_
    refine lv_aload_n hx hb dX4_findTape_5 rfl (lv_at hl 0 rfl) ?_
    refine g0 (k := 4) (v := .int (nI (zn G))) hC hW (by decide) mF_X4_48 rfl dX4_findTape_6 ?_
    refine lv_icmp_ge (tgt := 21) hx hb dX4_findTape_9 (by decide) (fun h9 => ?_) (fun h9 => ?_)
    · refine lv_null hx hb dX4_findTape_21 ?_
      exact hE hW rfl dX4_findTape_22
    · exact absurd hbd (fun q => q.elim h1 h9)

set_option maxHeartbeats 4000000 in
set_option maxRecDepth 100000 in
theorem c_X4_findDrive (l : Launch) (G : GG) (C : CS) (M : MS) {d : Nat} (hd : d < 3) : Ct l G yX4_findDrive cX4_findDrive 2 (some (.object "TapeVault$Drive")) 0 0 [.ref (zad G 0 0), .int (nI d)] C M (some (.ref (zad G 3 d))) C M := by
  refine Ct_r (by decide) (Nat.le_of_ble_eq_true rfl) (Or.inr ⟨_, rfl⟩) (fun {p e s m args below meth c A Q ls} hC hW hl hE => ?_)
  have hx := hC.1
  have hb := hC.2.1
  have hl : lv_has ls 2 [(0, .ref (zad G 0 0)), (1, .int (nI d))] := hl
  refine lv_iload_n hx hb dX4_findDrive_0 rfl (lv_at hl 1 rfl) ?_
  refine zf_lt (i := d) (tgt := 18) hx hb rfl (by omega) dX4_findDrive_1 (by decide) ?_
  refine lv_iload_n hx hb dX4_findDrive_4 rfl (lv_at hl 1 rfl) ?_
  refine lv_iconst (v := 3) hx hb dX4_findDrive_5 (by decide) ?_
  refine zc_ge (i := d) (j := 3) (tgt := 18) hx hb rfl rfl (by omega) (by omega) dX4_findDrive_6 (by decide) (fun h6 => ?_) (fun h6 => ?_)
  · exact absurd h6 (by omega)
  · refine lv_aload_n hx hb dX4_findDrive_9 rfl (lv_at hl 0 rfl) ?_
    refine g0 (k := 1) (v := .ref (zad G 2 0)) hC hW (by decide) mF_X4_18 rfl dX4_findDrive_10 ?_
    refine lv_iload_n hx hb dX4_findDrive_13 rfl (lv_at hl 1 rfl) ?_
    refine ar (d := d) hC hW rfl (by omega) dX4_findDrive_14 ?_
    refine lv_goto (tgt := 19) hx hb dX4_findDrive_15 (by decide) ?_
    exact hE hW rfl dX4_findDrive_19

set_option maxHeartbeats 4000000 in
set_option maxRecDepth 100000 in
theorem c_X4_findDrive_n (l : Launch) (G : GG) (C : CS) (M : MS) {x : Int32} (hbd : badT 3 x) : Ct l G yX4_findDrive cX4_findDrive 2 (some (.object "TapeVault$Drive")) 0 0 [.ref (zad G 0 0), .int x] C M (some (.null)) C M := by
  refine Ct_r (by decide) (Nat.le_of_ble_eq_true rfl) (Or.inl rfl) (fun {p e s m args below meth c A Q ls} hC hW hl hE => ?_)
  have hx := hC.1
  have hb := hC.2.1
  have hl : lv_has ls 2 [(0, .ref (zad G 0 0)), (1, .int x)] := hl
  refine lv_iload_n hx hb dX4_findDrive_0 rfl (lv_at hl 1 rfl) ?_
  refine lv_if_lt (tgt := 18) hx hb dX4_findDrive_1 (by decide) (fun h1 => ?_) (fun h1 => ?_)
  · refine lv_null hx hb dX4_findDrive_18 ?_
    exact hE hW rfl dX4_findDrive_19
  · refine lv_iload_n hx hb dX4_findDrive_4 rfl (lv_at hl 1 rfl) ?_
    refine lv_iconst (v := 3) hx hb dX4_findDrive_5 (by decide) ?_
    refine lv_icmp_ge (tgt := 18) hx hb dX4_findDrive_6 (by decide) (fun h6 => ?_) (fun h6 => ?_)
    · refine lv_null hx hb dX4_findDrive_18 ?_
      exact hE hW rfl dX4_findDrive_19
    · exact absurd hbd (fun q => q.elim h1 h6)

set_option maxHeartbeats 4000000 in
set_option maxRecDepth 100000 in
theorem c_X4_counted (l : Launch) (G : GG) (C : CS) (M : MS) (w : Int32) : Ct l G yX4_counted cX4_counted 2 (some .int) 0 0 [.ref (zad G 0 0), .int w] C M (some (.int w)) (couC C w) M := by
  refine Ct_i (by decide) (Nat.le_of_ble_eq_true rfl) (fun {p e s m args below meth c A Q ls} hC hW hl hE => ?_)
  have hx := hC.1
  have hb := hC.2.1
  have hl : lv_has ls 2 [(0, .ref (zad G 0 0)), (1, .int w)] := hl
  refine lv_aload_n hx hb dX4_counted_0 rfl (lv_at hl 0 rfl) ?_
  refine lv_dup hx hb dX4_counted_1 rfl ?_
  refine g0 (k := 5) (v := .int (cF C 0 0 5)) hC hW (by decide) mF_X4_153 rfl dX4_counted_2 ?_
  refine lv_iconst (v := 1) hx hb dX4_counted_5 (by decide) ?_
  refine lv_iadd hx hb dX4_counted_6 ?_
  refine p0 (k := 5) (v := (cF C 0 0 5) + 1) hC hW (by decide) mF_X4_153 dX4_counted_7 (fun _ eS H locs hW => ?_)
  subst eS
  refine lv_iload_n hx hb dX4_counted_10 rfl (lv_at hl 1 rfl) ?_
  refine lv_if_ge (tgt := 24) hx hb dX4_counted_11 (by decide) (fun h11 => ?_) (fun h11 => ?_)
  · refine lv_iload_n hx hb dX4_counted_24 rfl (lv_at hl 1 rfl) ?_
    have qC : sF C 0 0 5 ((cF C 0 0 5) + 1) = couC C w := by unfold couC cou1; simp [h11, cF_sF, cN_sN, cB_sB, cM_sM, cN_sF, cB_sF, cM_sF, cF_sN, cB_sN, cM_sN, cF_sB, cN_sB, cM_sB, cF_sM, cN_sM, cB_sM, mF_smF, mA_smF, mF_smA, mA_smA]
    rw [qC] at hW
    exact hE hW rfl dX4_counted_25
  · refine lv_aload_n hx hb dX4_counted_14 rfl (lv_at hl 0 rfl) ?_
    refine lv_dup hx hb dX4_counted_15 rfl ?_
    refine g0 (k := 6) (v := .int (cF C 0 0 6)) hC hW (by decide) mF_X4_156 rfl dX4_counted_16 ?_
    refine lv_iconst (v := 1) hx hb dX4_counted_19 (by decide) ?_
    refine lv_iadd hx hb dX4_counted_20 ?_
    refine p0 (k := 6) (v := (cF C 0 0 6) + 1) hC hW (by decide) mF_X4_156 dX4_counted_21 (fun _ eS H locs hW => ?_)
    subst eS
    refine lv_iload_n hx hb dX4_counted_24 rfl (lv_at hl 1 rfl) ?_
    have qC : sF (sF C 0 0 5 ((cF C 0 0 5) + 1)) 0 0 6 ((cF C 0 0 6) + 1) = couC C w := by unfold couC cou1; simp [h11, cF_sF, cN_sN, cB_sB, cM_sM, cN_sF, cB_sF, cM_sF, cF_sN, cB_sN, cM_sN, cF_sB, cN_sB, cM_sB, cF_sM, cN_sM, cB_sM, mF_smF, mA_smF, mF_smA, mA_smA]
    rw [qC] at hW
    exact hE hW rfl dX4_counted_25

theorem ndS_e {C : CS} {t j : Nat} {o o2 : Option Nat} (h : ndS C t j o = o2) : ndS C t j o = o2 := h

set_option maxHeartbeats 4000000 in
set_option maxRecDepth 100000 in
theorem c_X4_nearestDrive (l : Launch) (G : GG) (C : CS) (M : MS) {t : Nat} (ht : t < zn G) (hI : Iv C) (hT : ∀ d t, cM C d = some t → t < zn G) : Ct l G yX4_nearestDrive cX4_nearestDrive 5 (some (.object "TapeVault$Drive")) 2 41 [.ref (zad G 0 0), .ref (zad G 9 t)] C M (some (va_rf ((ndC C t).map (zad G 3)))) C M := by
  refine Ct_r (by decide) (Nat.le_of_ble_eq_true rfl) (by cases ndC C t; exact Or.inl rfl; exact Or.inr ⟨_, rfl⟩) (fun {p e s m args below meth c A Q ls} hC hW hl hE => ?_)
  have hx := hC.1
  have hb := hC.2.1
  have hl : lv_has ls 5 [(0, .ref (zad G 0 0)), (1, .ref (zad G 9 t))] := hl
  refine lv_null hx hb dX4_nearestDrive_0 ?_
  refine lv_astore_nN (lv' := [(2, .null), (0, .ref (zad G 0 0)), (1, .ref (zad G 9 t))]) hx hb dX4_nearestDrive_1 rfl hl (by decide) rfl (fun ls hl => ?_)
  refine lv_iconst (v := 0) hx hb dX4_nearestDrive_2 (by decide) ?_
  refine lv_istore_n (lv' := [(3, .int 0), (2, .null), (0, .ref (zad G 0 0)), (1, .ref (zad G 9 t))]) hx hb dX4_nearestDrive_3 rfl hl (by decide) rfl (fun ls hl => ?_)
  have lp : ∀ (k : Nat) (j : Nat) (o : Option Nat), j + k = 3 → (∀ q, o = some q → q < 3) → ndL C t k j o = ndC C t → ∀ (H : Heap) (locs : List Loc) (ls : Array Slot), Wd G s A s.heap H locs C M → lv_has ls 5 [(0, .ref (zad G 0 0)), (1, .ref (zad G 9 t)), (2, va_rf (o.map (zad G 3))), (3, .int (nI j))] → W p l e { frames := 2, cells := 0, slots := 0, locals := 41 } s m args below meth c H locs 0 0 Q (F0 m 4 ls []) := by
    intro k
    induction k with
    | zero =>
      intro j o hk ho hD H locs ls hW hl
      cases o with
      | none =>
        have hl : lv_has ls 5 [(0, .ref (zad G 0 0)), (1, .ref (zad G 9 t)), (2, .null), (3, .int (nI j))] := hl
        refine lv_iload_n hx hb dX4_nearestDrive_4 rfl (lv_at hl 3 rfl) ?_
        refine lv_iconst (v := 3) hx hb dX4_nearestDrive_5 (by decide) ?_
        refine zc_ge (i := j) (j := 3) (tgt := 52) hx hb rfl rfl (by omega) (by omega) dX4_nearestDrive_6 (by decide) (fun h6 => ?_) (fun h6 => ?_)
        · refine lv_aload_nN hx hb dX4_nearestDrive_52 rfl (lv_at hl 2 rfl) ?_
          have hD2 : ndC C t = none := hD.symm
          rw [hD2] at hE
          exact hE hW rfl dX4_nearestDrive_53
        · exact absurd h6 (by omega)
      | some d =>
        have hd : d < 3 := ho d rfl
        have hdl := dist_le (hI.2.2 t) hd
        have hl : lv_has ls 5 [(0, .ref (zad G 0 0)), (1, .ref (zad G 9 t)), (2, .ref (zad G 3 d)), (3, .int (nI j))] := hl
        refine lv_iload_n hx hb dX4_nearestDrive_4 rfl (lv_at hl 3 rfl) ?_
        refine lv_iconst (v := 3) hx hb dX4_nearestDrive_5 (by decide) ?_
        refine zc_ge (i := j) (j := 3) (tgt := 52) hx hb rfl rfl (by omega) (by omega) dX4_nearestDrive_6 (by decide) (fun h6 => ?_) (fun h6 => ?_)
        · refine lv_aload_n hx hb dX4_nearestDrive_52 rfl (lv_at hl 2 rfl) ?_
          have hD2 : ndC C t = some d := hD.symm
          rw [hD2] at hE
          exact hE hW rfl dX4_nearestDrive_53
        · exact absurd h6 (by omega)
    | succ k ih =>
      intro j o hk ho hD H locs ls hW hl
      have hj3 : j < 3 := by omega
      have hdj := dist_le (hI.2.2 t) hj3
      cases o with
      | none =>
        have hl : lv_has ls 5 [(0, .ref (zad G 0 0)), (1, .ref (zad G 9 t)), (2, .null), (3, .int (nI j))] := hl
        refine lv_iload_n hx hb dX4_nearestDrive_4 rfl (lv_at hl 3 rfl) ?_
        refine lv_iconst (v := 3) hx hb dX4_nearestDrive_5 (by decide) ?_
        refine zc_ge (i := j) (j := 3) (tgt := 52) hx hb rfl rfl (by omega) (by omega) dX4_nearestDrive_6 (by decide) (fun h6 => ?_) (fun h6 => ?_)
        · exact absurd h6 (by omega)
        · refine lv_aload_n hx hb dX4_nearestDrive_9 rfl (lv_at hl 0 rfl) ?_
          refine g0 (k := 1) (v := .ref (zad G 2 0)) hC hW (by decide) mF_X4_18 rfl dX4_nearestDrive_10 ?_
          refine lv_iload_n hx hb dX4_nearestDrive_13 rfl (lv_at hl 3 rfl) ?_
          refine ar (d := j) hC hW rfl (by omega) dX4_nearestDrive_14 ?_
          refine lv_astore (lv' := [(4, .ref (zad G 3 j)), (0, .ref (zad G 0 0)), (1, .ref (zad G 9 t)), (2, .null), (3, .int (nI j))]) hx hb dX4_nearestDrive_15 hl (by decide) rfl (fun ls hl => ?_)
          refine lv_aload hx hb dX4_nearestDrive_17 (lv_at hl 0 rfl) ?_
          refine z_callV (As := []) (rest := []) (st1 := [.int (bI (rdyP C j))]) hC hW (LL_3 (by omega)) rfl rfl rfl (c_X1_isReady l G C M (by omega) (hT j)) mw_X1_isReady mv_X1_isReady mM_X4_159 ⟨Nat.le_of_ble_eq_true rfl, Nat.le_of_ble_eq_true rfl⟩ rfl rfl hl.1 (lv_room (Nat.le_of_ble_eq_true rfl)) dX4_nearestDrive_19 rfl (fun H locs hW => ?_) ⟨Nat.zero_le _, Nat.zero_le _⟩
          refine zb_eq (tgt := 46) hx hb (rdyP C j) rfl dX4_nearestDrive_22 (by decide) (fun h22 => ?_) (fun h22 => ?_)
          · refine lv_iinc (k := 4) (v := nI (j + 1)) (lv' := [(3, .int (nI (j + 1))), (4, .ref (zad G 3 j)), (0, .ref (zad G 0 0)), (1, .ref (zad G 9 t)), (2, .null)]) hx hb dX4_nearestDrive_46 hl rfl (nI_inc _) (by decide) rfl (fun ls hl => ?_)
            refine lv_goto (tgt := 4) hx hb dX4_nearestDrive_49 (by decide) ?_
            exact ih (j + 1) none (by omega) (fun q hq => by cases hq) (by rw [← hD, ndL]; congr 1; exact (ndS_e (by rw [ndS, if_neg h22])).symm) _ _ _ hW (lv_sub hl [2, 3, 4, 0] rfl)
          · refine lv_aload_nN hx hb dX4_nearestDrive_25 rfl (lv_at hl 3 rfl) ?_
            refine lv_ifnullN (tgt := 43) hx hb dX4_nearestDrive_26 (by decide) ?_
            refine lv_aload hx hb dX4_nearestDrive_43 (lv_at hl 0 rfl) ?_
            refine lv_astore_n (lv' := [(2, .ref (zad G 3 j)), (4, .ref (zad G 3 j)), (0, .ref (zad G 0 0)), (1, .ref (zad G 9 t)), (3, .int (nI j))]) hx hb dX4_nearestDrive_45 rfl hl (by decide) rfl (fun ls hl => ?_)
            refine lv_iinc (k := 4) (v := nI (j + 1)) (lv' := [(3, .int (nI (j + 1))), (2, .ref (zad G 3 j)), (4, .ref (zad G 3 j)), (0, .ref (zad G 0 0)), (1, .ref (zad G 9 t))]) hx hb dX4_nearestDrive_46 hl rfl (nI_inc _) (by decide) rfl (fun ls hl => ?_)
            refine lv_goto (tgt := 4) hx hb dX4_nearestDrive_49 (by decide) ?_
            exact ih (j + 1) (some j) (by omega) (fun q hq => by cases hq; omega) (by rw [← hD, ndL]; congr 1; exact (ndS_e (by simp [ndS, h22])).symm) _ _ _ hW (lv_sub hl [3, 4, 1, 0] rfl)
      | some d =>
        have hd : d < 3 := ho d rfl
        have hdl := dist_le (hI.2.2 t) hd
        have hl : lv_has ls 5 [(0, .ref (zad G 0 0)), (1, .ref (zad G 9 t)), (2, .ref (zad G 3 d)), (3, .int (nI j))] := hl
        refine lv_iload_n hx hb dX4_nearestDrive_4 rfl (lv_at hl 3 rfl) ?_
        refine lv_iconst (v := 3) hx hb dX4_nearestDrive_5 (by decide) ?_
        refine zc_ge (i := j) (j := 3) (tgt := 52) hx hb rfl rfl (by omega) (by omega) dX4_nearestDrive_6 (by decide) (fun h6 => ?_) (fun h6 => ?_)
        · exact absurd h6 (by omega)
        · refine lv_aload_n hx hb dX4_nearestDrive_9 rfl (lv_at hl 0 rfl) ?_
          refine g0 (k := 1) (v := .ref (zad G 2 0)) hC hW (by decide) mF_X4_18 rfl dX4_nearestDrive_10 ?_
          refine lv_iload_n hx hb dX4_nearestDrive_13 rfl (lv_at hl 3 rfl) ?_
          refine ar (d := j) hC hW rfl (by omega) dX4_nearestDrive_14 ?_
          refine lv_astore (lv' := [(4, .ref (zad G 3 j)), (0, .ref (zad G 0 0)), (1, .ref (zad G 9 t)), (2, .ref (zad G 3 d)), (3, .int (nI j))]) hx hb dX4_nearestDrive_15 hl (by decide) rfl (fun ls hl => ?_)
          refine lv_aload hx hb dX4_nearestDrive_17 (lv_at hl 0 rfl) ?_
          refine z_callV (As := []) (rest := []) (st1 := [.int (bI (rdyP C j))]) hC hW (LL_3 (by omega)) rfl rfl rfl (c_X1_isReady l G C M (by omega) (hT j)) mw_X1_isReady mv_X1_isReady mM_X4_159 ⟨Nat.le_of_ble_eq_true rfl, Nat.le_of_ble_eq_true rfl⟩ rfl rfl hl.1 (lv_room (Nat.le_of_ble_eq_true rfl)) dX4_nearestDrive_19 rfl (fun H locs hW => ?_) ⟨Nat.zero_le _, Nat.zero_le _⟩
          refine zb_eq (tgt := 46) hx hb (rdyP C j) rfl dX4_nearestDrive_22 (by decide) (fun h22 => ?_) (fun h22 => ?_)
          · refine lv_iinc (k := 4) (v := nI (j + 1)) (lv' := [(3, .int (nI (j + 1))), (4, .ref (zad G 3 j)), (0, .ref (zad G 0 0)), (1, .ref (zad G 9 t)), (2, .ref (zad G 3 d))]) hx hb dX4_nearestDrive_46 hl rfl (nI_inc _) (by decide) rfl (fun ls hl => ?_)
            refine lv_goto (tgt := 4) hx hb dX4_nearestDrive_49 (by decide) ?_
            exact ih (j + 1) (some d) (by omega) (fun q hq => by cases hq; omega) (by rw [← hD, ndL]; congr 1; exact (ndS_e (by rw [ndS, if_neg h22])).symm) _ _ _ hW (lv_sub hl [2, 3, 4, 0] rfl)
          · refine lv_aload_n hx hb dX4_nearestDrive_25 rfl (lv_at hl 3 rfl) ?_
            refine lv_ifnull hx hb dX4_nearestDrive_26 ?_
            refine lv_aload hx hb dX4_nearestDrive_29 (lv_at hl 0 rfl) ?_
            refine lv_aload_n hx hb dX4_nearestDrive_31 rfl (lv_at hl 2 rfl) ?_
            refine z_callV (As := [.ref (zad G 9 t)]) (rest := []) (st1 := [.int (nI (dist (cN C 9 t 0) j))]) hC hW (LL_3 (by omega)) rfl rfl rfl (c_X1_distance l G C M (by omega) ht hI) mw_X1_distance mv_X1_distance mM_X4_163 ⟨Nat.le_of_ble_eq_true rfl, Nat.le_of_ble_eq_true rfl⟩ rfl rfl hl.1 (lv_room (Nat.le_of_ble_eq_true rfl)) dX4_nearestDrive_32 rfl (fun H locs hW => ?_) ⟨Nat.zero_le _, Nat.zero_le _⟩
            refine lv_aload_n hx hb dX4_nearestDrive_35 rfl (lv_at hl 3 rfl) ?_
            refine lv_aload_n hx hb dX4_nearestDrive_36 rfl (lv_at hl 2 rfl) ?_
            refine z_callV (As := [.ref (zad G 9 t)]) (rest := [.int (nI (dist (cN C 9 t 0) j))]) (st1 := [.int (nI (dist (cN C 9 t 0) d)), .int (nI (dist (cN C 9 t 0) j))]) hC hW (LL_3 hd) rfl rfl rfl (c_X1_distance l G C M (hd) ht hI) mw_X1_distance mv_X1_distance mM_X4_163 ⟨Nat.le_of_ble_eq_true rfl, Nat.le_of_ble_eq_true rfl⟩ rfl rfl hl.1 (lv_room (Nat.le_of_ble_eq_true rfl)) dX4_nearestDrive_37 rfl (fun H locs hW => ?_) ⟨Nat.zero_le _, Nat.zero_le _⟩
            refine zc_ge (i := dist (cN C 9 t 0) j) (j := dist (cN C 9 t 0) d) (tgt := 46) hx hb rfl rfl (by omega) (by omega) dX4_nearestDrive_40 (by decide) (fun h40 => ?_) (fun h40 => ?_)
            · refine lv_iinc (k := 4) (v := nI (j + 1)) (lv' := [(3, .int (nI (j + 1))), (4, .ref (zad G 3 j)), (0, .ref (zad G 0 0)), (1, .ref (zad G 9 t)), (2, .ref (zad G 3 d))]) hx hb dX4_nearestDrive_46 hl rfl (nI_inc _) (by decide) rfl (fun ls hl => ?_)
              refine lv_goto (tgt := 4) hx hb dX4_nearestDrive_49 (by decide) ?_
              exact ih (j + 1) (some d) (by omega) (fun q hq => by cases hq; omega) (by rw [← hD, ndL]; congr 1; exact (ndS_e (by show (if rdyP C j then (if dist (cN C 9 t 0) d ≤ dist (cN C 9 t 0) j then some d else some j) else some d) = some d; rw [if_pos h22, if_pos (by omega)])).symm) _ _ _ hW (lv_sub hl [2, 3, 4, 0] rfl)
            · refine lv_aload hx hb dX4_nearestDrive_43 (lv_at hl 0 rfl) ?_
              refine lv_astore_n (lv' := [(2, .ref (zad G 3 j)), (4, .ref (zad G 3 j)), (0, .ref (zad G 0 0)), (1, .ref (zad G 9 t)), (3, .int (nI j))]) hx hb dX4_nearestDrive_45 rfl hl (by decide) rfl (fun ls hl => ?_)
              refine lv_iinc (k := 4) (v := nI (j + 1)) (lv' := [(3, .int (nI (j + 1))), (2, .ref (zad G 3 j)), (4, .ref (zad G 3 j)), (0, .ref (zad G 0 0)), (1, .ref (zad G 9 t))]) hx hb dX4_nearestDrive_46 hl rfl (nI_inc _) (by decide) rfl (fun ls hl => ?_)
              refine lv_goto (tgt := 4) hx hb dX4_nearestDrive_49 (by decide) ?_
              exact ih (j + 1) (some j) (by omega) (fun q hq => by cases hq; omega) (by rw [← hD, ndL]; congr 1; exact (ndS_e (by show (if rdyP C j then (if dist (cN C 9 t 0) d ≤ dist (cN C 9 t 0) j then some d else some j) else some d) = some j; rw [if_pos h22, if_neg (by omega)])).symm) _ _ _ hW (lv_sub hl [3, 4, 1, 0] rfl)
  exact lp 3 0 none rfl (fun q hq => by cases hq) rfl _ _ _ hW (lv_sub hl [2, 3, 1, 0] rfl)

