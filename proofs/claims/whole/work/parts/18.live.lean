/-! ===== the reference: a mount that lives ===== -/
def mN (M : MS) (j i : Nat) : Nat := (mA M j i).toNatClampNeg
def mwin (M : MS) (mm q pp : Nat) : MS := if mF M 30 ≠ 0 then M else mwL mm (pp - q) q M
def mwr1 (M : MS) (mm d t q : Nat) (k n z : Int32) : MS := if mF M 30 ≠ 0 then M else mwri M mm d t q k n z
def mclM (M : MS) (mm d t b : Nat) : MS := if mA M 18 mm = 0 then M else if mF M 30 = 0 then M else mclo M mm d t (mN M 2 t) b
def munM (M : MS) (mm d t : Nat) : MS := munm M mm d t (mN M 19 mm)
/-- slot mm has drive d and tape t; while things go on the tape stands at q -/
def Jm (M : MS) (mm d t q : Nat) : Prop := d < 3 ∧ t < 12 ∧ mA M 15 mm = nI d ∧ mA M 16 mm = nI t ∧ (mF M 30 = 0 → mA M 18 mm = 1 ∧ mA M 19 mm = nI q ∧ q ≤ 100) ∧ (mA M 18 mm ≠ 0 → mA M 19 mm = nI (mN M 19 mm))
theorem mN_of {M : MS} {j i a : Nat} (h : mA M j i = nI a) (ha : a < 2 ^ 31) : mN M j i = a := by unfold mN; rw [h, nI_clamp ha]
theorem nat_of {M : MS} {j i a : Nat} (h : mA M j i = nI a) (ha : a < 2 ^ 31) : mA M j i = nI (mN M j i) := by rw [mN_of h ha]; exact h
/-- a step that leaves a slot as it is, and does not take a failure back -/
def Kp (M M' : MS) (mm : Nat) : Prop := (∀ j, 15 ≤ j → mA M' j mm = mA M j mm) ∧ (mF M' 30 = 0 → mF M 30 = 0)
theorem Kp.rf {M : MS} {mm : Nat} : Kp M M mm := ⟨fun _ _ => rfl, fun h => h⟩
theorem Kp.tr {M M1 M2 : MS} {mm : Nat} (a : Kp M M1 mm) (b : Kp M1 M2 mm) : Kp M M2 mm := ⟨fun j h => (b.1 j h).trans (a.1 j h), fun h => a.2 (b.2 h)⟩
theorem Kp.J {M M' : MS} {mm d t q : Nat} (a : Kp M M' mm) (h : Jm M mm d t q) : Jm M' mm d t q := by
  obtain ⟨h1, h2, h3, h4, h5, h6⟩ := h
  have e := a.1
  refine ⟨h1, h2, by rw [e 15 (by decide)]; exact h3, by rw [e 16 (by decide)]; exact h4, fun z => ?_, fun z => ?_⟩
  · rw [e 18 (by decide), e 19 (by decide)]; exact h5 (a.2 z)
  · unfold mN; rw [e 19 (by decide)]; rw [e 18 (by decide)] at z; exact h6 z
theorem Kp_F {M : MS} {mm k : Nat} {v : Int32} (h : k ≠ 30) : Kp M (smF M k v) mm := ⟨fun _ _ => rfl, fun z => by rw [mF_smF, if_neg (Ne.symm h)] at z; exact z⟩
theorem Kp_A {M : MS} {mm j i : Nat} {v : Int32} (h : j < 15 ∨ i ≠ mm) : Kp M (smA M j i v) mm := ⟨fun j' hj => by rw [mA_smA, if_neg (by omega)], fun z => z⟩
theorem Kp_w {M : MS} {mm : Nat} (h0 : mF M 30 = 0) : Kp M (mwM M) mm := ⟨fun j _ => by rw [mwM_A], fun _ => h0⟩
theorem Kp_put {M : MS} {mm t q : Nat} {k n z : Int32} : Kp M (mput M t q k n z) mm := by
  unfold mput
  exact ((((Kp_A (Or.inl (by decide))).tr (Kp_A (Or.inl (by decide)))).tr (Kp_A (Or.inl (by decide)))).tr (Kp_A (Or.inl (by decide))))
theorem Kp_p0 {M : MS} {mm m2 d q : Nat} (h : mm ≠ m2) (h0 : mF M 30 = 0) : Kp M (mpas0 M m2 d q) mm := by
  refine ⟨fun j hj => ?_, fun _ => h0⟩
  unfold mpas0
  split
  · unfold mpJ; rw [mA_smF, mA_nj (by omega), mA_nj (by omega)]
  · split
    · unfold mp2; rw [mA_ni h, mA_nj (by omega), mA_nj (by omega), mwM_A]
    · rw [mwM_A]
theorem Kp_win {mm m2 : Nat} (h : mm ≠ m2) : ∀ (k q : Nat) (M : MS), mF M 30 = 0 → Kp M (mwL m2 k q M) mm := by
  intro k
  induction k with
  | zero => intro q M _; exact Kp.rf
  | succ k ih =>
    intro q M h0; unfold mwL; split
    · rename_i hp
      exact ((Kp_w h0).tr (Kp_A (Or.inr (Ne.symm h)))).tr (ih _ _ (mwM_w h0 hp))
    · exact Kp_w h0
theorem Kp_mwin {M : MS} {mm m2 q pp : Nat} (h : mm ≠ m2) : Kp M (mwin M m2 q pp) mm := by
  unfold mwin; split
  · exact Kp.rf
  · rename_i h0; exact Kp_win h _ _ _ (Classical.byContradiction h0)
theorem Kp_p1 {M : MS} {mm m2 d q : Nat} (h : mm ≠ m2) (h0 : mF M 30 = 0) : Kp M (mpas1 M m2 d q) mm := by
  unfold mpas1; split
  · exact ⟨fun _ _ => rfl, fun _ => h0⟩
  · exact Kp_p0 h h0
theorem Kp_wr1 {M : MS} {mm m2 d t q : Nat} {k n z : Int32} (h : mm ≠ m2) : Kp M (mwr1 M m2 d t q k n z) mm := by
  unfold mwr1; split
  · exact Kp.rf
  · rename_i h0
    have h0 := Classical.byContradiction h0
    unfold mwri; split
    · exact (Kp_p1 h h0).tr Kp_put
    · exact Kp_p1 h h0
theorem Kp_tak {M : MS} {mm m2 d t q : Nat} (h : mm ≠ m2) (h0 : mF M 30 = 0) : Kp M (mtak M m2 d t q) mm := by
  unfold mtak; split
  · split
    · exact Kp_p0 h h0
    · refine (Kp_p0 h h0).tr ⟨fun _ _ => rfl, fun z => absurd z (show ¬ ((-7 : Int32) = 0) by decide)⟩
  · exact Kp_p0 h h0
/-! the slot itself -/
theorem J_win {mm d t : Nat} : ∀ (k q : Nat) (M : MS), mF M 30 = 0 → q + k ≤ 100 → Jm M mm d t q → Jm (mwL mm k q M) mm d t (q + k) := by
  intro k
  induction k with
  | zero => intro q M _ _ h; exact h
  | succ k ih =>
    intro q M h0 hb h
    obtain ⟨h1, h2, h3, h4, h5, h6⟩ := h
    unfold mwL; split
    · rename_i hp
      rw [show q + (k + 1) = (q + 1) + k by omega]
      refine ih _ _ (mwM_w h0 hp) (by omega) ⟨h1, h2, by rw [mA_nj (by decide), mwM_A]; exact h3, by rw [mA_nj (by decide), mwM_A]; exact h4, fun _ => ⟨by rw [mA_nj (by decide), mwM_A]; exact (h5 h0).1, mA_self, by omega⟩, fun _ => nat_of mA_self (by omega)⟩
    · rename_i hp
      refine ⟨h1, h2, by rw [mwM_A]; exact h3, by rw [mwM_A]; exact h4, fun z => absurd (z.symm.trans (mwM_c hp)) (by decide), fun z => ?_⟩
      unfold mN; rw [mwM_A] at z ⊢; exact h6 z
theorem J_mwin {M : MS} {mm d t q pp : Nat} (hq : q ≤ pp) (hp : pp ≤ 100) (h : Jm M mm d t q) : Jm (mwin M mm q pp) mm d t pp := by
  unfold mwin; split
  · rename_i h0
    obtain ⟨h1, h2, h3, h4, h5, h6⟩ := h
    exact ⟨h1, h2, h3, h4, fun z => absurd z h0, h6⟩
  · rename_i h0
    have := J_win (pp - q) q M (Classical.byContradiction h0) (by omega) h
    rw [show q + (pp - q) = pp by omega] at this
    exact this
theorem J_p0 {M : MS} {mm d t q : Nat} (h0 : mF M 30 = 0) (hq : q < 100) (h : Jm M mm d t q) : Jm (mpas0 M mm d q) mm d t (q + 1) := by
  obtain ⟨h1, h2, h3, h4, h5, h6⟩ := h
  have e18 : mA (mpas0 M mm d q) 18 mm = mA M 18 mm := mpas0_A (by decide)
  refine ⟨h1, h2, by rw [mpas0_A (by decide)]; exact h3, by rw [mpas0_A (by decide)]; exact h4, fun z => ⟨by rw [e18]; exact (h5 h0).1, mpas0_s h0 z, by omega⟩, fun z => ?_⟩
  by_cases z0 : mF (mpas0 M mm d q) 30 = 0
  · exact nat_of (mpas0_s h0 z0) (by omega)
  · have e : mA (mpas0 M mm d q) 19 mm = mA M 19 mm := by
      unfold mpas0 at z0 ⊢
      split
      · unfold mpJ; rw [mA_smF, mA_nj (by decide), mA_nj (by decide)]
      · rename_i a
        rw [if_neg a] at z0
        split
        · rename_i b; rw [if_pos b] at z0; exact absurd (mwM_w h0 b) z0
        · rw [mwM_A]
    unfold mN; rw [e]; rw [e18] at z; exact h6 z
theorem J_put {M : MS} {mm d t q t2 q2 : Nat} {k n z : Int32} (h : Jm M mm d t q) : Jm (mput M t2 q2 k n z) mm d t q := Kp_put.J h
theorem J_wr1 {M : MS} {mm d t q : Nat} {k n z : Int32} (h : Jm M mm d t q) : Jm (mwr1 M mm d t q k n z) mm d t (q + 1) := by
  unfold mwr1; split
  · rename_i h0
    obtain ⟨h1, h2, h3, h4, h5, h6⟩ := h
    exact ⟨h1, h2, h3, h4, fun z => absurd z h0, h6⟩
  · rename_i h0
    have h0 := Classical.byContradiction h0
    have hq := (h.2.2.2.2.1 h0).2.2
    unfold mwri; split
    · rename_i hz
      obtain ⟨a, b⟩ := mpas1_z hz
      rw [b]; exact J_put (J_p0 h0 (by omega) h)
    · rename_i hz
      by_cases a : q = 100
      · have e : mpas1 M mm d q = smF M 30 (-6) := if_pos a
        rw [e]
        obtain ⟨h1, h2, h3, h4, h5, h6⟩ := h
        exact ⟨h1, h2, h3, h4, fun z => absurd z (show ¬ ((-6 : Int32) = 0) by decide), h6⟩
      · have e : mpas1 M mm d q = mpas0 M mm d q := if_neg a
        rw [e]; exact J_p0 h0 (by omega) h
theorem J_tak {M : MS} {mm d t q : Nat} (h0 : mF M 30 = 0) (hq : q < 100) (h : Jm M mm d t q) : Jm (mtak M mm d t q) mm d t (q + 1) := by
  have hp := J_p0 h0 hq h
  unfold mtak; split
  · split
    · exact hp
    · obtain ⟨h1, h2, h3, h4, h5, h6⟩ := hp
      exact ⟨h1, h2, h3, h4, fun z => absurd z (show ¬ ((-7 : Int32) = 0) by decide), h6⟩
  · exact hp
theorem mput_2 {M : MS} {t q t2 : Nat} {k n z : Int32} : mA (mput M t q k n z) 2 t2 = if t2 = t then mA M 2 t + 1 else mA M 2 t2 := by
  unfold mput
  rw [mA_smA]
  by_cases h : t2 = t
  · rw [if_pos ⟨rfl, h⟩, if_pos h]
  · rw [if_neg (fun q => h q.2), if_neg h, mA_nj (by decide), mA_nj (by decide), mA_nj (by decide)]
/-- what unmounting wants of a slot -/
def Un (M : MS) (mm d t : Nat) : Prop := d < 3 ∧ mA M 15 mm = nI d ∧ (mA M 18 mm ≠ 0 → t < 12 ∧ mA M 16 mm = nI t ∧ mA M 19 mm = nI (mN M 19 mm))
theorem Jm.U {M : MS} {mm d t q : Nat} (h : Jm M mm d t q) : Un M mm d t := ⟨h.1, h.2.2.1, fun z => ⟨h.2.1, h.2.2.2.1, h.2.2.2.2.2 z⟩⟩
theorem Kp.U {M M' : MS} {mm d t : Nat} (a : Kp M M' mm) (h : Un M mm d t) : Un M' mm d t := by
  have e := a.1
  refine ⟨h.1, by rw [e 15 (by decide)]; exact h.2.1, fun z => ?_⟩
  rw [e 18 (by decide)] at z
  unfold mN
  rw [e 16 (by decide), e 19 (by decide)]; exact h.2.2 z
theorem U_clo {M : MS} {mm d t b : Nat} (he : mA M 2 t = nI (mN M 2 t)) (heb : mN M 2 t ≤ 100) (h : Un M mm d t) : Un (mclM M mm d t b) mm d t := by
  unfold mclM; split
  · exact h
  · split
    · exact h
    · rename_i hs _
      unfold mclo; split
      · exact h
      · split
        · exact h
        · split
          · have hk : Kp M (mclo1 M t (mN M 2 t)) mm := by unfold mclo1; exact (Kp_F (by decide)).tr Kp_put
            have hu := hk.U h
            have e2 : mA (mclo1 M t (mN M 2 t)) 2 t = nI (mN M 2 t + 1) := by
              unfold mclo1; rw [mput_2, if_pos rfl, mA_smF, he]
              unfold mN; rw [nI_1]
            refine ⟨hu.1, by rw [mA_nj (by decide)]; exact hu.2.1, fun z => ?_⟩
            rw [mA_nj (by decide)] at z
            refine ⟨(hu.2.2 z).1, by rw [mA_nj (by decide)]; exact (hu.2.2 z).2.1, nat_of (mA_self.trans e2) (by omega)⟩
          · exact h
/-! the same, as contracts -/
theorem c_wind (l : Launch) (G : GG) (C : CS) (M : MS) {mm : Nat} (hm : mm < 2) {d t q pp : Nat} (hJ : Jm M mm d t q) (hq : q ≤ pp) (hp : pp ≤ 100) : Ct l G yX5_wind cX5_wind 3 none 1 20 [.ref (zad G 12 0), .int (nI mm), .int (nI pp)] C M none C (mwin M mm q pp) := by
  unfold mwin
  by_cases h0 : mF M 30 ≠ 0
  · rw [if_pos h0]; exact c_X5_wind_f l G C M hm h0 _
  · rw [if_neg h0]
    have h0 := Classical.byContradiction h0
    exact c_X5_wind_0 l G C M hm h0 (hJ.2.2.2.2.1 h0).2.1 hq (by omega)
theorem c_write (l : Launch) (G : GG) (C : CS) (M : MS) {mm : Nat} (hm : mm < 2) {d t q : Nat} (hJ : Jm M mm d t q) (k v z : Int32) : Ct l G yX5_write cX5_write 5 none 2 43 [.ref (zad G 12 0), .int (nI mm), .int k, .int v, .int z] C M none C (mwr1 M mm d t q k v z) := by
  unfold mwr1
  by_cases h0 : mF M 30 ≠ 0
  · rw [if_pos h0]; exact c_X5_write_f l G C M hm h0 k v z
  · rw [if_neg h0]
    have h0 := Classical.byContradiction h0
    obtain ⟨h1, h2, h3, h4, h5, h6⟩ := hJ
    exact c_X5_write_0 l G C M hm h0 h1 h3 (h5 h0).2.1 (by have := (h5 h0).2.2; omega) h2 h4 (h5 h0).2.2 k v z
theorem c_take (l : Launch) (G : GG) (C : CS) (M : MS) {mm : Nat} (hm : mm < 2) {d t q : Nat} (h0 : mF M 30 = 0) (hq : q < 100) (hJ : Jm M mm d t q) : Ct l G yX5_take cX5_take 3 (some .int) 2 43 [.ref (zad G 12 0), .int (nI mm)] C M (some (.int (nI (100 * t + q)))) C (mtak M mm d t q) := by
  obtain ⟨h1, h2, h3, h4, h5, h6⟩ := hJ
  exact c_X5_take l G C M hm h0 h1 h3 (h5 h0).2.1 (by omega) h2 h4 hq
theorem c_close (l : Launch) (G : GG) (C : CS) (M : MS) {mm : Nat} (hm : mm < 2) {d t b : Nat} (hd : d < 3) (ht : t < 12) (hdr : mA M 15 mm = nI d) (htr : mA M 16 mm = nI t) (he : mA M 2 t = nI (mN M 2 t)) (heb : mN M 2 t ≤ 100) (hb : b ≤ 100) : Ct l G yX5_close cX5_close 4 none 1 25 [.ref (zad G 12 0), .int (nI mm), .int (nI b)] C M none C (mclM M mm d t b) := by
  unfold mclM
  by_cases hs : mA M 18 mm = 0
  · rw [if_pos hs]; exact c_X5_close_n l G C M hm hs _
  · rw [if_neg hs]
    by_cases h0 : mF M 30 = 0
    · rw [if_pos h0]; exact c_X5_close_f l G C M hm h0 _
    · rw [if_neg h0]; exact c_X5_close_1 l G C M hm hs h0 hd hdr ht htr he heb hb
theorem c_unmount (l : Launch) (G : GG) (C : CS) (M : MS) {mm : Nat} (hm : mm < 2) {d t : Nat} (hU : Un M mm d t) : Ct l G yX5_unmount cX5_unmount 2 none 0 0 [.ref (zad G 12 0), .int (nI mm)] C M none C (munM M mm d t) := c_X5_unmount_s l G C M hm hU.1 hU.2.1 hU.2.2
/-! a mount's begin -/
theorem mcL_A {mm j i : Nat} (h : j ≠ 17 ∨ i ≠ mm) : ∀ (k c : Nat) (M : MS), mA (mcL mm k c M) j i = mA M j i := by
  intro k
  induction k with
  | zero => intro c M; rfl
  | succ k ih =>
    intro c M; unfold mcL; split
    · rw [ih, mA_smA, if_neg (by omega), mwM_A]
    · rw [mwM_A]
theorem mcL_0 {mm : Nat} : ∀ (k c : Nat) (M : MS), mF M 30 = 0 → mF (mcL mm k c M) 30 = 0 ∨ mF (mcL mm k c M) 30 = -4 := by
  intro k
  induction k with
  | zero => intro c M h; exact Or.inl h
  | succ k ih =>
    intro c M h; unfold mcL; split
    · rename_i hp; exact ih _ _ (mwM_w h hp)
    · rename_i hp; exact Or.inr (mwM_c hp)
theorem moB_15 {M : MS} {mm t d : Nat} : mA (moB M mm t d) 15 mm = nI d := by unfold moB; rw [mA_nj (by decide), mA_nj (by decide), mA_self]
theorem moB_18 {M : MS} {mm t d : Nat} : mA (moB M mm t d) 18 mm = 0 := by unfold moB; rw [mA_nj (by decide), mA_nj (by decide), mA_nj (by decide)]; unfold mo0; rw [mA_nj (by decide), mA_self]
theorem moB_16 {M : MS} {mm t d : Nat} : mA (moB M mm t d) 16 mm = nI t := by unfold moB; rw [mA_self]
theorem mdS_some {M : MS} {h d i : Nat} {o : Option Nat} (hh : mdS M h d o = some i) : (i = d ∧ mA M 10 d = 0 ∧ mA M 11 d = 0) ∨ o = some i := by
  unfold mdS at hh
  split at hh
  · rename_i hr
    split at hh
    · cases hh; exact Or.inl ⟨rfl, hr⟩
    · split at hh
      · cases hh; exact Or.inl ⟨rfl, hr⟩
      · cases hh; exact Or.inr rfl
  · exact Or.inr hh
theorem mdL_some {M : MS} {h i : Nat} : ∀ (k : Nat) (o : Option Nat), mdL M h k o = some i → (i < k ∧ mA M 10 i = 0 ∧ mA M 11 i = 0) ∨ o = some i := by
  intro k
  induction k with
  | zero => intro o hh; exact Or.inr hh
  | succ k ih =>
    intro o hh
    rcases ih _ hh with q | q
    · exact Or.inl ⟨by omega, q.2⟩
    · rcases mdS_some q with ⟨rfl, z⟩ | z
      · exact Or.inl ⟨by omega, z⟩
      · exact Or.inr z
theorem md_some {M : MS} {h d : Nat} (hh : mdC M h = some d) : d < 3 ∧ mA M 10 d = 0 ∧ mA M 11 d = 0 := by
  rcases mdL_some _ _ hh with q | q
  · exact q
  · cases q
theorem J_mo {M : MS} {mm t h d : Nat} (ht : t < 12) (hd : d < 3) : Jm (moD M mm t h d) mm d t 0 := by
  unfold moD
  split
  · unfold moE
    refine ⟨hd, ht, ?_, ?_, fun _ => ⟨?_, mA_self, by omega⟩, fun _ => nat_of (a := 0) mA_self (by decide)⟩
    · rw [mA_nj (by decide), mA_nj (by decide), mA_nj (by decide), mA_nj (by decide), mcL_A (Or.inl (by decide)), moB_15]
    · rw [mA_nj (by decide), mA_nj (by decide), mA_nj (by decide), mA_nj (by decide), mcL_A (Or.inl (by decide)), moB_16]
    · rw [mA_nj (by decide), mA_self]
  · rename_i hz
    refine ⟨hd, ht, by rw [mcL_A (Or.inl (by decide)), moB_15], by rw [mcL_A (Or.inl (by decide)), moB_16], fun z => absurd z hz, fun z => ?_⟩
    rw [mcL_A (Or.inl (by decide)), moB_18] at z
    exact absurd rfl z
theorem moD_st {M : MS} {mm t h d : Nat} (h0 : mF M 30 = 0) : (mF (moD M mm t h d) 30 = 0 ∧ mA (moD M mm t h d) 18 mm = 1) ∨ (mF (moD M mm t h d) 30 = -4 ∧ mA (moD M mm t h d) 18 mm = 0) := by
  unfold moD
  rcases mcL_0 (mm := mm) (dist h d) 0 (moB M mm t d) h0 with z | z
  · rw [if_pos z]; exact Or.inl ⟨z, by unfold moE; rw [mA_nj (by decide), mA_self]⟩
  · rw [if_neg (by rw [z]; decide)]; exact Or.inr ⟨z, by rw [mcL_A (Or.inl (by decide)), moB_18]⟩
theorem moD_A {M : MS} {mm t h d j i : Nat} (hj : j ≠ 3 ∧ j ≠ 10 ∧ j ≠ 13) (hs : j < 15 ∨ i ≠ mm) : mA (moD M mm t h d) j i = mA M j i := by
  have hB : mA (moB M mm t d) j i = mA M j i := by
    unfold moB mo0
    rw [mA_smA, if_neg (by omega), mA_nj hj.2.1, mA_smA, if_neg (by omega), mA_smA, if_neg (by omega), mA_smA, if_neg (by omega), mA_smA, if_neg (by omega)]
  unfold moD
  split
  · unfold moE
    rw [mA_smA, if_neg (by omega), mA_smA, if_neg (by omega), mA_nj hj.1, mA_nj hj.2.2, mcL_A (by omega), hB]
  · rw [mcL_A (by omega), hB]
theorem mwM_F {M : MS} {k : Nat} (h : k ≠ 25 ∧ k ≠ 29 ∧ k ≠ 30) : mF (mwM M) k = mF M k := by
  unfold mwM; split
  · rw [mF_smF, if_neg h.2.2, mF_smF, if_neg h.2.1]
  · rw [mF_smF, if_neg h.1, mF_smF, if_neg h.2.1]
theorem mcL_F {mm f : Nat} (h : f ≠ 25 ∧ f ≠ 29 ∧ f ≠ 30) : ∀ (k c : Nat) (M : MS), mF (mcL mm k c M) f = mF M f := by
  intro k
  induction k with
  | zero => intro c M; rfl
  | succ k ih =>
    intro c M; unfold mcL; split
    · rw [ih, mF_smA, mwM_F h]
    · exact mwM_F h
theorem moD_F {M : MS} {mm t h d f : Nat} (hf : f ≠ 25 ∧ f ≠ 29 ∧ f ≠ 30) : mF (moD M mm t h d) f = mF M f := by
  unfold moD
  split
  · unfold moE; rw [mF_smA, mF_smA, mF_smA, mF_smA, mcL_F hf]; rfl
  · rw [mcL_F hf]; rfl
theorem mwL_F {mm f : Nat} (h : f ≠ 25 ∧ f ≠ 29 ∧ f ≠ 30) : ∀ (k q : Nat) (M : MS), mF (mwL mm k q M) f = mF M f := by
  intro k
  induction k with
  | zero => intro q M; rfl
  | succ k ih =>
    intro q M; unfold mwL; split
    · rw [ih, mF_smA, mwM_F h]
    · exact mwM_F h
theorem mwL_A {mm j : Nat} (h : j ≠ 19) : ∀ (k q : Nat) (M : MS), mA (mwL mm k q M) j = mA M j := by
  intro k
  induction k with
  | zero => intro q M; rfl
  | succ k ih =>
    intro q M; unfold mwL; split
    · rw [ih]; funext i; rw [mA_nj h, mwM_A]
    · exact mwM_A M ▸ rfl
theorem mwin_F {M : MS} {mm q pp f : Nat} (h : f ≠ 25 ∧ f ≠ 29 ∧ f ≠ 30) : mF (mwin M mm q pp) f = mF M f := by unfold mwin; split; rfl; exact mwL_F h _ _ _
theorem mwin_A {M : MS} {mm q pp j : Nat} (h : j ≠ 19) : mA (mwin M mm q pp) j = mA M j := by unfold mwin; split; rfl; exact mwL_A h _ _ _
theorem mpas0_F {M : MS} {mm d q f : Nat} (h : f ≠ 25 ∧ f ≠ 29 ∧ f ≠ 30) : mF (mpas0 M mm d q) f = mF M f := by
  unfold mpas0; split
  · unfold mpJ; rw [mF_smF, if_neg h.2.2]; rfl
  · split
    · unfold mp2; rw [mF_smA, mF_smA, mF_smA, mwM_F h]
    · exact mwM_F h
theorem mpas1_F {M : MS} {mm d q f : Nat} (h : f ≠ 25 ∧ f ≠ 29 ∧ f ≠ 30) : mF (mpas1 M mm d q) f = mF M f := by
  unfold mpas1; split
  · rw [mF_smF, if_neg h.2.2]
  · exact mpas0_F h
theorem mpas1_A {M : MS} {m d q j i : Nat} (h : j ≠ 11 ∧ j ≠ 12 ∧ j ≠ 14 ∧ j ≠ 19) : mA (mpas1 M m d q) j i = mA M j i := by unfold mpas1; split; rfl; exact mpas0_A h
theorem mwr1_F {M : MS} {mm d t q f : Nat} {k n z : Int32} (h : f ≠ 25 ∧ f ≠ 29 ∧ f ≠ 30) : mF (mwr1 M mm d t q k n z) f = mF M f := by
  unfold mwr1; split; rfl
  unfold mwri; split
  · show mF (mpas1 M mm d q) f = _; exact mpas1_F h
  · exact mpas1_F h
theorem mput_A {M : MS} {t q j i : Nat} {k n z : Int32} (h : (j ≠ 5 ∧ j ≠ 6 ∧ j ≠ 7) ∧ j ≠ 2) : mA (mput M t q k n z) j i = mA M j i := by
  unfold mput; rw [mA_nj h.2, mA_nj h.1.2.2, mA_nj h.1.2.1, mA_nj h.1.1]
theorem mwr1_A {M : MS} {mm d t q j i : Nat} {k n z : Int32} (h : j ≠ 11 ∧ j ≠ 12 ∧ j ≠ 14 ∧ j ≠ 19) (h2 : (j ≠ 5 ∧ j ≠ 6 ∧ j ≠ 7) ∧ j ≠ 2) : mA (mwr1 M mm d t q k n z) j i = mA M j i := by
  unfold mwr1; split; rfl
  unfold mwri; split
  · rw [mput_A h2, mpas1_A h]
  · exact mpas1_A h
theorem mtak_A {M : MS} {mm d t q j i : Nat} (h : j ≠ 11 ∧ j ≠ 12 ∧ j ≠ 14 ∧ j ≠ 19) : mA (mtak M mm d t q) j i = mA M j i := by
  unfold mtak; split
  · split
    · exact mpas0_A h
    · rw [mA_smF]; exact mpas0_A h
  · exact mpas0_A h
theorem mtak_F {M : MS} {mm d t q f : Nat} (h : f ≠ 25 ∧ f ≠ 29 ∧ f ≠ 30) : mF (mtak M mm d t q) f = mF M f := by
  unfold mtak; split
  · split
    · exact mpas0_F h
    · rw [mF_smF, if_neg h.2.2]; exact mpas0_F h
  · exact mpas0_F h
