/-! the law: its cases -/
theorem kk_a63 (z : Int) : mm_and z 63 = z % 64 := by
  unfold mm_and
  rw [← Int32.toInt_toBitVec, Int32.toBitVec_and]
  have h1 : (Int32.ofInt 63).toBitVec.msb = false := by decide
  have hm : ((Int32.ofInt z).toBitVec &&& (Int32.ofInt 63).toBitVec).msb = false := by
    rw [BitVec.msb_and, h1]; simp
  rw [BitVec.toInt_eq_toNat_of_msb hm, BitVec.toNat_and]
  have h2 : (Int32.ofInt 63).toBitVec.toNat = 2 ^ 6 - 1 := by decide
  rw [h2, Nat.and_two_pow_sub_one_eq_mod]
  have h3 : (Int32.ofInt z).toBitVec.toNat = (z % 4294967296).toNat := by
    show (BitVec.ofInt 32 z).toNat = _
    rw [BitVec.toNat_ofInt]
    rfl
  rw [h3]
  omega
theorem kk_lorr (a b : Int) : -9223372036854775808 ≤ mm_lor a b ∧ mm_lor a b < 9223372036854775808 := by
  unfold mm_lor
  have h1 := (Int64.ofInt a ||| Int64.ofInt b).le_toInt
  have h2 := (Int64.ofInt a ||| Int64.ofInt b).toInt_lt
  omega
theorem kk_S90 : mm_SK (fun _ => true) := ⟨rfl, rfl, rfl, fun _ _ _ => rfl⟩
/-- a call leaves the script alone -/
theorem kk_Cl90 {k : Nat} {a : List mm_V} {h : mm_Id → Int → Int} {dh : Int → Int} {nx ns : Int} {Q : mm_V → mm_H → Prop} (hy : 5306 ≤ nx) (hc : mm_Cl k a (mm_z h dh nx ns) Q) : mm_Cl k a (mm_z h dh nx ns) (fun r h1 => Q r h1 ∧ ∀ j, h1.1 (90, 0, 0) j = h (90, 0, 0) j) := by
  obtain ⟨f, r, h1, e, q⟩ := hc
  have z := mm_runS kk_S90 f _ _ _ _ _ _ _ e (fun _ _ _ _ => rfl) (fun _ _ _ _ => rfl) ⟨fun _ _ _ => rfl, hy⟩
  exact ⟨f, r, h1, e, q, fun j => (z.2.2.2.1 (90, 0, 0) j (by decide)).1⟩
/-- a call of both in the law -/
def kk_cA (k k2 : Nat) (a : List mm_V) (b : Int) (h : mm_Id → Int → Int) (dh : Int → Int) (nx ns : Int) (S : mm_V → Prop) : Prop :=
  mm_Cl k (zR (1, 0, 0) :: a) (mm_z h dh nx ns) (fun r h1 => S r ∧ ∃ g dh1, h1 = mm_z g dh1 nx ns ∧ (∀ j, g (90, 0, 0) j = h (90, 0, 0) j) ∧ mm_Cl k2 (zR (40, 0, 0) :: a) (mm_z g dh1 nx ns) (fun r2 h2 => r2 = r ∧ ∃ g2, h2 = mm_z g2 dh1 nx ns ∧ kk_core (b + 1600) g2 dh1 ∧ kk_sI g2 ∧ ∀ j, g2 (90, 0, 0) j = h (90, 0, 0) j))
theorem kk_cAc {k k2 : Nat} {a : List mm_V} {b : Int} {h : mm_Id → Int → Int} {dh : Int → Int} {nx ns : Int} {S : mm_V → Prop} (hy : 5306 ≤ nx) (hb : b + 1600 ≤ 1000000) (hs : kk_sI h) (hc : kk_call k k2 a b h dh nx ns S) : kk_cA k k2 a b h dh nx ns S := by
  refine mm_Clm ?_ (kk_Cl90 hy hc)
  rintro r h1 ⟨⟨sr, g, dh1, e, c2⟩, q⟩
  subst e
  refine ⟨sr, g, dh1, rfl, q, mm_Clm ?_ (kk_Cl90 hy c2)⟩
  rintro r2 h2 ⟨⟨e1, g2, e2, core, scr⟩, q2⟩
  subst e2
  exact ⟨e1, g2, rfl, kk_coreU ⟨by omega, hb⟩ core, kk_sIe scr hs, fun j => (q2 j).trans (q j)⟩
theorem kk_cAs {k k2 : Nat} {a : List mm_V} {b m : Int} {h : mm_Id → Int → Int} {dh : Int → Int} {nx ns : Int} (hy : 5306 ≤ nx) (hb : b + 1600 ≤ 1000000) (hm : m ≤ 1600) (hc : kk_callS k k2 a b m h dh nx ns) : kk_cA k k2 a b h dh nx ns kk_SI := by
  refine mm_Clm ?_ (kk_Cl90 hy hc)
  rintro r h1 ⟨⟨sr, g, dh1, e, c2⟩, q⟩
  subst e
  refine ⟨sr, g, dh1, rfl, q, mm_Clm ?_ (kk_Cl90 hy c2)⟩
  rintro r2 h2 ⟨⟨e1, g2, e2, core, sI⟩, q2⟩
  subst e2
  exact ⟨e1, g2, rfl, kk_coreU ⟨by omega, hb⟩ core, sI, fun j => (q2 j).trans (q j)⟩
section
variable {b : Int} {h : mm_Id → Int → Int} {dh : Int → Int} {nx ns x3 N : Int} {S : Int → Int} {Q : mm_V → mm_H → Prop}
/-- what a case of the law wants: the script, and what follows -/
def kk_LW (h : mm_Id → Int → Int) (S : Int → Int) (N x3 : Int) : Prop := (∀ j, h (90, 0, 0) j = S j) ∧ S (-1) = N ∧ (0 ≤ x3 ∧ x3 + 7 ≤ N ∧ N ≤ 3585) ∧ ∀ j, 0 ≤ j → j < N → -2147483648 ≤ S j ∧ S j < 2147483648
theorem kk_case0 (hy : 5306 ≤ nx) (hc : kk_core b h dh) (hs : kk_sI h) (hb : b + 1600 ≤ 1000000) (L : kk_LW h S N x3) (K : ∀ g d, kk_core (b + 1600) g d → kk_sI g → (∀ j, g (90, 0, 0) j = S j) → mm_Wp 297 (mm_blk 297 82) [zR (90, 0, 0), zR (1, 0, 0), zR (40, 0, 0), zI x3] [] (mm_z g d nx ns) Q) : mm_Wp 297 (mm_blk 297 2) [zR (90, 0, 0), zR (1, 0, 0), zR (40, 0, 0), zI x3] [] (mm_z h dh nx ns) Q := by
  obtain ⟨s90, sN, x30, sr⟩ := L
  have e : ∀ i : Int, 1 ≤ i → i ≤ 6 → mm_w (x3 + i) = x3 + i := fun i i0 i1 => mm_wi (by omega) (by omega)
  rw [r_297_2 (hy := hy)]
  simp only [e 1 (by omega) (by omega), e 2 (by omega) (by omega), e 3 (by omega) (by omega), e 4 (by omega) (by omega), e 5 (by omega) (by omega), e 6 (by omega) (by omega), s90]
  refine ⟨⟨by omega, by omega⟩, ⟨by omega, by omega⟩, ⟨by omega, by omega⟩, ⟨by omega, by omega⟩, ?_⟩
  have cA : kk_cA 1 212 [zI (S (x3 + 1)), zI (S (x3 + 2)), zI (S (x3 + 3)), zI (S (x3 + 4))] b h dh nx ns kk_SI := kk_cAc hy hb hs (c_1 (hy := hy) (hc := hc) (hb := by omega) (ht := sr _ (by omega) (by omega)) (hn := sr _ (by omega) (by omega)) (hk := sr _ (by omega) (by omega)) (hl := sr _ (by omega) (by omega)))
  refine mm_Clm ?_ cA
  rintro r h1 ⟨⟨y, er, _⟩, g, dh1, eg, g90, c2⟩
  subst er eg
  rw [mm_pI, r_297_2_22 (hy := hy)]
  simp only [e 1 (by omega) (by omega), e 2 (by omega) (by omega), e 3 (by omega) (by omega), e 4 (by omega) (by omega), e 5 (by omega) (by omega), e 6 (by omega) (by omega), g90, s90]
  refine ⟨⟨by omega, by omega⟩, ⟨by omega, by omega⟩, ⟨by omega, by omega⟩, ⟨by omega, by omega⟩, ?_⟩
  refine mm_Clm ?_ c2
  rintro r2 h2 ⟨e1, g2, e2, core, sI, q90⟩
  subst e1 e2
  rw [mm_pI, r_297_2_44 (hy := hy), if_pos rfl]
  exact K g2 dh1 core sI (fun j => by rw [q90 j, s90 j])
theorem kk_case1 (hy : 5306 ≤ nx) (hc : kk_core b h dh) (hs : kk_sI h) (hb : b + 1600 ≤ 1000000) (L : kk_LW h S N x3) (K : ∀ g d, kk_core (b + 1600) g d → kk_sI g → (∀ j, g (90, 0, 0) j = S j) → mm_Wp 297 (mm_blk 297 82) [zR (90, 0, 0), zR (1, 0, 0), zR (40, 0, 0), zI x3] [] (mm_z g d nx ns) Q) : mm_Wp 297 (mm_blk 297 3) [zR (90, 0, 0), zR (1, 0, 0), zR (40, 0, 0), zI x3] [] (mm_z h dh nx ns) Q := by
  obtain ⟨s90, sN, x30, sr⟩ := L
  have e : ∀ i : Int, 1 ≤ i → i ≤ 6 → mm_w (x3 + i) = x3 + i := fun i i0 i1 => mm_wi (by omega) (by omega)
  rw [r_297_3 (hy := hy)]
  simp only [e 1 (by omega) (by omega), e 2 (by omega) (by omega), e 3 (by omega) (by omega), e 4 (by omega) (by omega), e 5 (by omega) (by omega), e 6 (by omega) (by omega), s90]
  refine ⟨⟨by omega, by omega⟩, ?_⟩
  have cA : kk_cA 2 214 [zI (S (x3 + 1))] b h dh nx ns kk_SI := kk_cAc hy hb hs (c_2 (hy := hy) (hc := hc) (hb := by omega) (ht := sr _ (by omega) (by omega)))
  refine mm_Clm ?_ cA
  rintro r h1 ⟨⟨y, er, _⟩, g, dh1, eg, g90, c2⟩
  subst er eg
  rw [mm_pI, r_297_3_7 (hy := hy)]
  simp only [e 1 (by omega) (by omega), e 2 (by omega) (by omega), e 3 (by omega) (by omega), e 4 (by omega) (by omega), e 5 (by omega) (by omega), e 6 (by omega) (by omega), g90, s90]
  refine ⟨⟨by omega, by omega⟩, ?_⟩
  refine mm_Clm ?_ c2
  rintro r2 h2 ⟨e1, g2, e2, core, sI, q90⟩
  subst e1 e2
  rw [mm_pI, r_297_3_14 (hy := hy), if_pos rfl]
  exact K g2 dh1 core sI (fun j => by rw [q90 j, s90 j])
theorem kk_case2 (hy : 5306 ≤ nx) (hc : kk_core b h dh) (hs : kk_sI h) (hb : b + 1600 ≤ 1000000) (L : kk_LW h S N x3) (K : ∀ g d, kk_core (b + 1600) g d → kk_sI g → (∀ j, g (90, 0, 0) j = S j) → mm_Wp 297 (mm_blk 297 82) [zR (90, 0, 0), zR (1, 0, 0), zR (40, 0, 0), zI x3] [] (mm_z g d nx ns) Q) : mm_Wp 297 (mm_blk 297 4) [zR (90, 0, 0), zR (1, 0, 0), zR (40, 0, 0), zI x3] [] (mm_z h dh nx ns) Q := by
  obtain ⟨s90, sN, x30, sr⟩ := L
  have e : ∀ i : Int, 1 ≤ i → i ≤ 6 → mm_w (x3 + i) = x3 + i := fun i i0 i1 => mm_wi (by omega) (by omega)
  rw [r_297_4 (hy := hy)]
  simp only [e 1 (by omega) (by omega), e 2 (by omega) (by omega), e 3 (by omega) (by omega), e 4 (by omega) (by omega), e 5 (by omega) (by omega), e 6 (by omega) (by omega), s90]
  refine ⟨⟨by omega, by omega⟩, ⟨by omega, by omega⟩, ⟨by omega, by omega⟩, ⟨by omega, by omega⟩, ?_⟩
  by_cases t : S (x3 + 4) = 0
  · rw [if_pos t, r_297_6 (hy := hy)]
    have cA : kk_cA 3 215 [zI (S (x3 + 1)), zI (S (x3 + 2)), zI (S (x3 + 3)), zI 0] b h dh nx ns kk_SI := kk_cAc hy hb hs (c_3 (hy := hy) (hc := hc) (hb := by omega) (ht := sr _ (by omega) (by omega)) (hn := sr _ (by omega) (by omega)) (hk := sr _ (by omega) (by omega)) (hl := Or.inl rfl))
    refine mm_Clm ?_ cA
    rintro r h1 ⟨⟨y, er, _⟩, g, dh1, eg, g90, c2⟩
    subst er eg
    rw [mm_pI, r_297_6_1 (hy := hy)]
    simp only [e 1 (by omega) (by omega), e 2 (by omega) (by omega), e 3 (by omega) (by omega), e 4 (by omega) (by omega), e 5 (by omega) (by omega), e 6 (by omega) (by omega), g90, s90]
    refine ⟨⟨by omega, by omega⟩, ⟨by omega, by omega⟩, ⟨by omega, by omega⟩, ⟨by omega, by omega⟩, ?_⟩
    rw [if_pos t, r_297_8 (hy := hy)]
    refine mm_Clm ?_ c2
    rintro r2 h2 ⟨e1, g2, e2, core, sI, q90⟩
    subst e1 e2
    rw [mm_pI, r_297_8_1 (hy := hy), if_pos rfl]
    exact K g2 dh1 core sI (fun j => by rw [q90 j, s90 j])
  · rw [if_neg t, r_297_6 (hy := hy)]
    have cA : kk_cA 3 215 [zI (S (x3 + 1)), zI (S (x3 + 2)), zI (S (x3 + 3)), zI 1] b h dh nx ns kk_SI := kk_cAc hy hb hs (c_3 (hy := hy) (hc := hc) (hb := by omega) (ht := sr _ (by omega) (by omega)) (hn := sr _ (by omega) (by omega)) (hk := sr _ (by omega) (by omega)) (hl := Or.inr rfl))
    refine mm_Clm ?_ cA
    rintro r h1 ⟨⟨y, er, _⟩, g, dh1, eg, g90, c2⟩
    subst er eg
    rw [mm_pI, r_297_6_1 (hy := hy)]
    simp only [e 1 (by omega) (by omega), e 2 (by omega) (by omega), e 3 (by omega) (by omega), e 4 (by omega) (by omega), e 5 (by omega) (by omega), e 6 (by omega) (by omega), g90, s90]
    refine ⟨⟨by omega, by omega⟩, ⟨by omega, by omega⟩, ⟨by omega, by omega⟩, ⟨by omega, by omega⟩, ?_⟩
    rw [if_neg t, r_297_8 (hy := hy)]
    refine mm_Clm ?_ c2
    rintro r2 h2 ⟨e1, g2, e2, core, sI, q90⟩
    subst e1 e2
    rw [mm_pI, r_297_8_1 (hy := hy), if_pos rfl]
    exact K g2 dh1 core sI (fun j => by rw [q90 j, s90 j])
theorem kk_case3 (hy : 5306 ≤ nx) (hc : kk_core b h dh) (hs : kk_sI h) (hb : b + 1600 ≤ 1000000) (L : kk_LW h S N x3) (K : ∀ g d, kk_core (b + 1600) g d → kk_sI g → (∀ j, g (90, 0, 0) j = S j) → mm_Wp 297 (mm_blk 297 82) [zR (90, 0, 0), zR (1, 0, 0), zR (40, 0, 0), zI x3] [] (mm_z g d nx ns) Q) : mm_Wp 297 (mm_blk 297 9) [zR (90, 0, 0), zR (1, 0, 0), zR (40, 0, 0), zI x3] [] (mm_z h dh nx ns) Q := by
  obtain ⟨s90, sN, x30, sr⟩ := L
  have e : ∀ i : Int, 1 ≤ i → i ≤ 6 → mm_w (x3 + i) = x3 + i := fun i i0 i1 => mm_wi (by omega) (by omega)
  rw [r_297_9 (hy := hy)]
  simp only [e 1 (by omega) (by omega), e 2 (by omega) (by omega), e 3 (by omega) (by omega), e 4 (by omega) (by omega), e 5 (by omega) (by omega), e 6 (by omega) (by omega), s90]
  refine ⟨⟨by omega, by omega⟩, ⟨by omega, by omega⟩, ⟨by omega, by omega⟩, ?_⟩
  by_cases t : S (x3 + 3) = 0
  · rw [if_pos t, r_297_11 (hy := hy)]
    have cA : kk_cA 4 216 [zI (S (x3 + 1)), zI (S (x3 + 2)), zI 0] b h dh nx ns kk_SI := kk_cAc hy hb hs (c_4 (hy := hy) (hc := hc) (hb := by omega) (ht := sr _ (by omega) (by omega)) (hn := sr _ (by omega) (by omega)) (hk := by omega))
    refine mm_Clm ?_ cA
    rintro r h1 ⟨⟨y, er, _⟩, g, dh1, eg, g90, c2⟩
    subst er eg
    rw [mm_pI, r_297_11_1 (hy := hy)]
    simp only [e 1 (by omega) (by omega), e 2 (by omega) (by omega), e 3 (by omega) (by omega), e 4 (by omega) (by omega), e 5 (by omega) (by omega), e 6 (by omega) (by omega), g90, s90]
    refine ⟨⟨by omega, by omega⟩, ⟨by omega, by omega⟩, ⟨by omega, by omega⟩, ?_⟩
    rw [if_pos t, r_297_13 (hy := hy)]
    refine mm_Clm ?_ c2
    rintro r2 h2 ⟨e1, g2, e2, core, sI, q90⟩
    subst e1 e2
    rw [mm_pI, r_297_13_1 (hy := hy), if_pos rfl]
    exact K g2 dh1 core sI (fun j => by rw [q90 j, s90 j])
  · rw [if_neg t, r_297_11 (hy := hy)]
    have cA : kk_cA 4 216 [zI (S (x3 + 1)), zI (S (x3 + 2)), zI 1] b h dh nx ns kk_SI := kk_cAc hy hb hs (c_4 (hy := hy) (hc := hc) (hb := by omega) (ht := sr _ (by omega) (by omega)) (hn := sr _ (by omega) (by omega)) (hk := by omega))
    refine mm_Clm ?_ cA
    rintro r h1 ⟨⟨y, er, _⟩, g, dh1, eg, g90, c2⟩
    subst er eg
    rw [mm_pI, r_297_11_1 (hy := hy)]
    simp only [e 1 (by omega) (by omega), e 2 (by omega) (by omega), e 3 (by omega) (by omega), e 4 (by omega) (by omega), e 5 (by omega) (by omega), e 6 (by omega) (by omega), g90, s90]
    refine ⟨⟨by omega, by omega⟩, ⟨by omega, by omega⟩, ⟨by omega, by omega⟩, ?_⟩
    rw [if_neg t, r_297_13 (hy := hy)]
    refine mm_Clm ?_ c2
    rintro r2 h2 ⟨e1, g2, e2, core, sI, q90⟩
    subst e1 e2
    rw [mm_pI, r_297_13_1 (hy := hy), if_pos rfl]
    exact K g2 dh1 core sI (fun j => by rw [q90 j, s90 j])
theorem kk_case4 (hy : 5306 ≤ nx) (hc : kk_core b h dh) (hs : kk_sI h) (hb : b + 1600 ≤ 1000000) (L : kk_LW h S N x3) (K : ∀ g d, kk_core (b + 1600) g d → kk_sI g → (∀ j, g (90, 0, 0) j = S j) → mm_Wp 297 (mm_blk 297 82) [zR (90, 0, 0), zR (1, 0, 0), zR (40, 0, 0), zI x3] [] (mm_z g d nx ns) Q) : mm_Wp 297 (mm_blk 297 14) [zR (90, 0, 0), zR (1, 0, 0), zR (40, 0, 0), zI x3] [] (mm_z h dh nx ns) Q := by
  obtain ⟨s90, sN, x30, sr⟩ := L
  have e : ∀ i : Int, 1 ≤ i → i ≤ 6 → mm_w (x3 + i) = x3 + i := fun i i0 i1 => mm_wi (by omega) (by omega)
  rw [r_297_14 (hy := hy)]
  simp only [e 1 (by omega) (by omega), e 2 (by omega) (by omega), e 3 (by omega) (by omega), e 4 (by omega) (by omega), e 5 (by omega) (by omega), e 6 (by omega) (by omega), s90]
  refine ⟨⟨by omega, by omega⟩, ⟨by omega, by omega⟩, ⟨by omega, by omega⟩, ?_⟩
  have cA : kk_cA 5 217 [zI (S (x3 + 1)), zI (S (x3 + 2)), zI (S (x3 + 3))] b h dh nx ns kk_SI := kk_cAc hy hb hs (c_5 (hy := hy) (hc := hc) (hb := by omega) (ht := sr _ (by omega) (by omega)) (hn := sr _ (by omega) (by omega)) (hk := sr _ (by omega) (by omega)))
  refine mm_Clm ?_ cA
  rintro r h1 ⟨⟨y, er, _⟩, g, dh1, eg, g90, c2⟩
  subst er eg
  rw [mm_pI, r_297_14_17 (hy := hy)]
  simp only [e 1 (by omega) (by omega), e 2 (by omega) (by omega), e 3 (by omega) (by omega), e 4 (by omega) (by omega), e 5 (by omega) (by omega), e 6 (by omega) (by omega), g90, s90]
  refine ⟨⟨by omega, by omega⟩, ⟨by omega, by omega⟩, ⟨by omega, by omega⟩, ?_⟩
  refine mm_Clm ?_ c2
  rintro r2 h2 ⟨e1, g2, e2, core, sI, q90⟩
  subst e1 e2
  rw [mm_pI, r_297_14_34 (hy := hy), if_pos rfl]
  exact K g2 dh1 core sI (fun j => by rw [q90 j, s90 j])
theorem kk_case5 (hy : 5306 ≤ nx) (hc : kk_core b h dh) (hs : kk_sI h) (hb : b + 1600 ≤ 1000000) (L : kk_LW h S N x3) (K : ∀ g d, kk_core (b + 1600) g d → kk_sI g → (∀ j, g (90, 0, 0) j = S j) → mm_Wp 297 (mm_blk 297 82) [zR (90, 0, 0), zR (1, 0, 0), zR (40, 0, 0), zI x3] [] (mm_z g d nx ns) Q) : mm_Wp 297 (mm_blk 297 15) [zR (90, 0, 0), zR (1, 0, 0), zR (40, 0, 0), zI x3] [] (mm_z h dh nx ns) Q := by
  obtain ⟨s90, sN, x30, sr⟩ := L
  have e : ∀ i : Int, 1 ≤ i → i ≤ 6 → mm_w (x3 + i) = x3 + i := fun i i0 i1 => mm_wi (by omega) (by omega)
  rw [r_297_15 (hy := hy)]
  simp only [e 1 (by omega) (by omega), e 2 (by omega) (by omega), e 3 (by omega) (by omega), e 4 (by omega) (by omega), e 5 (by omega) (by omega), e 6 (by omega) (by omega), s90]
  refine ⟨⟨by omega, by omega⟩, ⟨by omega, by omega⟩, ⟨by omega, by omega⟩, ?_⟩
  have cA : kk_cA 6 218 [zI (S (x3 + 1)), zI (S (x3 + 2)), zI (S (x3 + 3))] b h dh nx ns kk_SI := kk_cAc hy hb hs (c_6 (hy := hy) (hc := hc) (hb := by omega) (ht := sr _ (by omega) (by omega)) (hn := sr _ (by omega) (by omega)) (hk := sr _ (by omega) (by omega)))
  refine mm_Clm ?_ cA
  rintro r h1 ⟨⟨y, er, _⟩, g, dh1, eg, g90, c2⟩
  subst er eg
  rw [mm_pI, r_297_15_17 (hy := hy)]
  simp only [e 1 (by omega) (by omega), e 2 (by omega) (by omega), e 3 (by omega) (by omega), e 4 (by omega) (by omega), e 5 (by omega) (by omega), e 6 (by omega) (by omega), g90, s90]
  refine ⟨⟨by omega, by omega⟩, ⟨by omega, by omega⟩, ⟨by omega, by omega⟩, ?_⟩
  refine mm_Clm ?_ c2
  rintro r2 h2 ⟨e1, g2, e2, core, sI, q90⟩
  subst e1 e2
  rw [mm_pI, r_297_15_34 (hy := hy), if_pos rfl]
  exact K g2 dh1 core sI (fun j => by rw [q90 j, s90 j])
theorem kk_case6 (hy : 5306 ≤ nx) (hc : kk_core b h dh) (hs : kk_sI h) (hb : b + 1600 ≤ 1000000) (L : kk_LW h S N x3) (K : ∀ g d, kk_core (b + 1600) g d → kk_sI g → (∀ j, g (90, 0, 0) j = S j) → mm_Wp 297 (mm_blk 297 82) [zR (90, 0, 0), zR (1, 0, 0), zR (40, 0, 0), zI x3] [] (mm_z g d nx ns) Q) : mm_Wp 297 (mm_blk 297 16) [zR (90, 0, 0), zR (1, 0, 0), zR (40, 0, 0), zI x3] [] (mm_z h dh nx ns) Q := by
  obtain ⟨s90, sN, x30, sr⟩ := L
  have e : ∀ i : Int, 1 ≤ i → i ≤ 6 → mm_w (x3 + i) = x3 + i := fun i i0 i1 => mm_wi (by omega) (by omega)
  rw [r_297_16 (hy := hy)]
  simp only [e 1 (by omega) (by omega), e 2 (by omega) (by omega), e 3 (by omega) (by omega), e 4 (by omega) (by omega), e 5 (by omega) (by omega), e 6 (by omega) (by omega), s90]
  refine ⟨⟨by omega, by omega⟩, ⟨by omega, by omega⟩, ⟨by omega, by omega⟩, ⟨by omega, by omega⟩, ⟨by omega, by omega⟩, ⟨by omega, by omega⟩, ?_⟩
  have cA : kk_cA 7 220 [zI (S (x3 + 1)), zI (S (x3 + 2)), zI (S (x3 + 3)), zL (mm_lor (mm_lshl (S (x3 + 4)) 32) (mm_land (S (x3 + 5)) 4294967295)), zI (S (x3 + 6))] b h dh nx ns kk_SI := kk_cAc hy hb hs (c_7 (hy := hy) (hc := hc) (hb := by omega) (ht := sr _ (by omega) (by omega)) (hn := sr _ (by omega) (by omega)) (hk := sr _ (by omega) (by omega)) (hl := kk_lorr _ _) (hm := sr _ (by omega) (by omega)))
  refine mm_Clm ?_ cA
  rintro r h1 ⟨⟨y, er, _⟩, g, dh1, eg, g90, c2⟩
  subst er eg
  rw [mm_pI, r_297_16_39 (hy := hy)]
  simp only [e 1 (by omega) (by omega), e 2 (by omega) (by omega), e 3 (by omega) (by omega), e 4 (by omega) (by omega), e 5 (by omega) (by omega), e 6 (by omega) (by omega), g90, s90]
  refine ⟨⟨by omega, by omega⟩, ⟨by omega, by omega⟩, ⟨by omega, by omega⟩, ⟨by omega, by omega⟩, ⟨by omega, by omega⟩, ⟨by omega, by omega⟩, ?_⟩
  refine mm_Clm ?_ c2
  rintro r2 h2 ⟨e1, g2, e2, core, sI, q90⟩
  subst e1 e2
  rw [mm_pI, r_297_16_78 (hy := hy), if_pos rfl]
  exact K g2 dh1 core sI (fun j => by rw [q90 j, s90 j])
theorem kk_case7 (hy : 5306 ≤ nx) (hc : kk_core b h dh) (hs : kk_sI h) (hb : b + 1600 ≤ 1000000) (L : kk_LW h S N x3) (K : ∀ g d, kk_core (b + 1600) g d → kk_sI g → (∀ j, g (90, 0, 0) j = S j) → mm_Wp 297 (mm_blk 297 82) [zR (90, 0, 0), zR (1, 0, 0), zR (40, 0, 0), zI x3] [] (mm_z g d nx ns) Q) : mm_Wp 297 (mm_blk 297 17) [zR (90, 0, 0), zR (1, 0, 0), zR (40, 0, 0), zI x3] [] (mm_z h dh nx ns) Q := by
  obtain ⟨s90, sN, x30, sr⟩ := L
  have e : ∀ i : Int, 1 ≤ i → i ≤ 6 → mm_w (x3 + i) = x3 + i := fun i i0 i1 => mm_wi (by omega) (by omega)
  rw [r_297_17 (hy := hy)]
  simp only [e 1 (by omega) (by omega), e 2 (by omega) (by omega), e 3 (by omega) (by omega), e 4 (by omega) (by omega), e 5 (by omega) (by omega), e 6 (by omega) (by omega), s90]
  refine ⟨⟨by omega, by omega⟩, ⟨by omega, by omega⟩, ⟨by omega, by omega⟩, ?_⟩
  have cA : kk_cA 8 221 [zI (S (x3 + 1)), zI (S (x3 + 2)), zI (S (x3 + 3))] b h dh nx ns kk_SI := kk_cAc hy hb hs (c_8 (hy := hy) (hc := hc) (hb := by omega) (ht := sr _ (by omega) (by omega)) (hn := sr _ (by omega) (by omega)) (hk := sr _ (by omega) (by omega)))
  refine mm_Clm ?_ cA
  rintro r h1 ⟨⟨y, er, _⟩, g, dh1, eg, g90, c2⟩
  subst er eg
  rw [mm_pI, r_297_17_17 (hy := hy)]
  simp only [e 1 (by omega) (by omega), e 2 (by omega) (by omega), e 3 (by omega) (by omega), e 4 (by omega) (by omega), e 5 (by omega) (by omega), e 6 (by omega) (by omega), g90, s90]
  refine ⟨⟨by omega, by omega⟩, ⟨by omega, by omega⟩, ⟨by omega, by omega⟩, ?_⟩
  refine mm_Clm ?_ c2
  rintro r2 h2 ⟨e1, g2, e2, core, sI, q90⟩
  subst e1 e2
  rw [mm_pI, r_297_17_34 (hy := hy), if_pos rfl]
  exact K g2 dh1 core sI (fun j => by rw [q90 j, s90 j])
theorem kk_case8 (hy : 5306 ≤ nx) (hc : kk_core b h dh) (hs : kk_sI h) (hb : b + 1600 ≤ 1000000) (L : kk_LW h S N x3) (K : ∀ g d, kk_core (b + 1600) g d → kk_sI g → (∀ j, g (90, 0, 0) j = S j) → mm_Wp 297 (mm_blk 297 82) [zR (90, 0, 0), zR (1, 0, 0), zR (40, 0, 0), zI x3] [] (mm_z g d nx ns) Q) : mm_Wp 297 (mm_blk 297 18) [zR (90, 0, 0), zR (1, 0, 0), zR (40, 0, 0), zI x3] [] (mm_z h dh nx ns) Q := by
  obtain ⟨s90, sN, x30, sr⟩ := L
  have e : ∀ i : Int, 1 ≤ i → i ≤ 6 → mm_w (x3 + i) = x3 + i := fun i i0 i1 => mm_wi (by omega) (by omega)
  rw [r_297_18 (hy := hy)]
  simp only [e 1 (by omega) (by omega), e 2 (by omega) (by omega), e 3 (by omega) (by omega), e 4 (by omega) (by omega), e 5 (by omega) (by omega), e 6 (by omega) (by omega), s90]
  refine ⟨⟨by omega, by omega⟩, ⟨by omega, by omega⟩, ⟨by omega, by omega⟩, ?_⟩
  have cA : kk_cA 9 222 [zI (S (x3 + 1)), zI (S (x3 + 2)), zI (S (x3 + 3))] b h dh nx ns kk_SI := kk_cAc hy hb hs (c_9 (hy := hy) (hc := hc) (hb := by omega) (ht := sr _ (by omega) (by omega)) (hn := sr _ (by omega) (by omega)) (hk := sr _ (by omega) (by omega)))
  refine mm_Clm ?_ cA
  rintro r h1 ⟨⟨y, er, _⟩, g, dh1, eg, g90, c2⟩
  subst er eg
  rw [mm_pI, r_297_18_17 (hy := hy)]
  simp only [e 1 (by omega) (by omega), e 2 (by omega) (by omega), e 3 (by omega) (by omega), e 4 (by omega) (by omega), e 5 (by omega) (by omega), e 6 (by omega) (by omega), g90, s90]
  refine ⟨⟨by omega, by omega⟩, ⟨by omega, by omega⟩, ⟨by omega, by omega⟩, ?_⟩
  refine mm_Clm ?_ c2
  rintro r2 h2 ⟨e1, g2, e2, core, sI, q90⟩
  subst e1 e2
  rw [mm_pI, r_297_18_34 (hy := hy), if_pos rfl]
  exact K g2 dh1 core sI (fun j => by rw [q90 j, s90 j])
theorem kk_case9 (hy : 5306 ≤ nx) (hc : kk_core b h dh) (hs : kk_sI h) (hb : b + 1600 ≤ 1000000) (L : kk_LW h S N x3) (K : ∀ g d, kk_core (b + 1600) g d → kk_sI g → (∀ j, g (90, 0, 0) j = S j) → mm_Wp 297 (mm_blk 297 82) [zR (90, 0, 0), zR (1, 0, 0), zR (40, 0, 0), zI x3] [] (mm_z g d nx ns) Q) : mm_Wp 297 (mm_blk 297 19) [zR (90, 0, 0), zR (1, 0, 0), zR (40, 0, 0), zI x3] [] (mm_z h dh nx ns) Q := by
  obtain ⟨s90, sN, x30, sr⟩ := L
  have e : ∀ i : Int, 1 ≤ i → i ≤ 6 → mm_w (x3 + i) = x3 + i := fun i i0 i1 => mm_wi (by omega) (by omega)
  rw [r_297_19 (hy := hy)]
  simp only [e 1 (by omega) (by omega), e 2 (by omega) (by omega), e 3 (by omega) (by omega), e 4 (by omega) (by omega), e 5 (by omega) (by omega), e 6 (by omega) (by omega), s90]
  refine ⟨⟨by omega, by omega⟩, ⟨by omega, by omega⟩, ⟨by omega, by omega⟩, ⟨by omega, by omega⟩, ?_⟩
  have cA : kk_cA 10 223 [zI (S (x3 + 1)), zI (S (x3 + 2)), zI (S (x3 + 3)), zI (S (x3 + 4))] b h dh nx ns kk_SI := kk_cAc hy hb hs (c_10 (hy := hy) (hc := hc) (hb := by omega) (ht := sr _ (by omega) (by omega)) (hn := sr _ (by omega) (by omega)) (hk := sr _ (by omega) (by omega)) (hl := sr _ (by omega) (by omega)))
  refine mm_Clm ?_ cA
  rintro r h1 ⟨⟨y, er, _⟩, g, dh1, eg, g90, c2⟩
  subst er eg
  rw [mm_pI, r_297_19_22 (hy := hy)]
  simp only [e 1 (by omega) (by omega), e 2 (by omega) (by omega), e 3 (by omega) (by omega), e 4 (by omega) (by omega), e 5 (by omega) (by omega), e 6 (by omega) (by omega), g90, s90]
  refine ⟨⟨by omega, by omega⟩, ⟨by omega, by omega⟩, ⟨by omega, by omega⟩, ⟨by omega, by omega⟩, ?_⟩
  refine mm_Clm ?_ c2
  rintro r2 h2 ⟨e1, g2, e2, core, sI, q90⟩
  subst e1 e2
  rw [mm_pI, r_297_19_44 (hy := hy), if_pos rfl]
  exact K g2 dh1 core sI (fun j => by rw [q90 j, s90 j])
theorem kk_case10 (hy : 5306 ≤ nx) (hc : kk_core b h dh) (hs : kk_sI h) (hb : b + 1600 ≤ 1000000) (L : kk_LW h S N x3) (K : ∀ g d, kk_core (b + 1600) g d → kk_sI g → (∀ j, g (90, 0, 0) j = S j) → mm_Wp 297 (mm_blk 297 82) [zR (90, 0, 0), zR (1, 0, 0), zR (40, 0, 0), zI x3] [] (mm_z g d nx ns) Q) : mm_Wp 297 (mm_blk 297 20) [zR (90, 0, 0), zR (1, 0, 0), zR (40, 0, 0), zI x3] [] (mm_z h dh nx ns) Q := by
  obtain ⟨s90, sN, x30, sr⟩ := L
  have e : ∀ i : Int, 1 ≤ i → i ≤ 6 → mm_w (x3 + i) = x3 + i := fun i i0 i1 => mm_wi (by omega) (by omega)
  rw [r_297_20 (hy := hy)]
  simp only [e 1 (by omega) (by omega), e 2 (by omega) (by omega), e 3 (by omega) (by omega), e 4 (by omega) (by omega), e 5 (by omega) (by omega), e 6 (by omega) (by omega), s90]
  refine ⟨⟨by omega, by omega⟩, ⟨by omega, by omega⟩, ⟨by omega, by omega⟩, ?_⟩
  have cA : kk_cA 11 225 [zI (S (x3 + 1)), zI (S (x3 + 2)), zI (S (x3 + 3))] b h dh nx ns kk_SI := kk_cAc hy hb hs (c_11 (hy := hy) (hc := hc) (hb := by omega) (ht := sr _ (by omega) (by omega)) (hn := sr _ (by omega) (by omega)) (hk := sr _ (by omega) (by omega)))
  refine mm_Clm ?_ cA
  rintro r h1 ⟨⟨y, er, _⟩, g, dh1, eg, g90, c2⟩
  subst er eg
  rw [mm_pI, r_297_20_17 (hy := hy)]
  simp only [e 1 (by omega) (by omega), e 2 (by omega) (by omega), e 3 (by omega) (by omega), e 4 (by omega) (by omega), e 5 (by omega) (by omega), e 6 (by omega) (by omega), g90, s90]
  refine ⟨⟨by omega, by omega⟩, ⟨by omega, by omega⟩, ⟨by omega, by omega⟩, ?_⟩
  refine mm_Clm ?_ c2
  rintro r2 h2 ⟨e1, g2, e2, core, sI, q90⟩
  subst e1 e2
  rw [mm_pI, r_297_20_34 (hy := hy), if_pos rfl]
  exact K g2 dh1 core sI (fun j => by rw [q90 j, s90 j])
theorem kk_case11 (hy : 5306 ≤ nx) (hc : kk_core b h dh) (hs : kk_sI h) (hb : b + 1600 ≤ 1000000) (L : kk_LW h S N x3) (K : ∀ g d, kk_core (b + 1600) g d → kk_sI g → (∀ j, g (90, 0, 0) j = S j) → mm_Wp 297 (mm_blk 297 82) [zR (90, 0, 0), zR (1, 0, 0), zR (40, 0, 0), zI x3] [] (mm_z g d nx ns) Q) : mm_Wp 297 (mm_blk 297 21) [zR (90, 0, 0), zR (1, 0, 0), zR (40, 0, 0), zI x3] [] (mm_z h dh nx ns) Q := by
  obtain ⟨s90, sN, x30, sr⟩ := L
  have e : ∀ i : Int, 1 ≤ i → i ≤ 6 → mm_w (x3 + i) = x3 + i := fun i i0 i1 => mm_wi (by omega) (by omega)
  rw [r_297_21 (hy := hy)]
  simp only [e 1 (by omega) (by omega), e 2 (by omega) (by omega), e 3 (by omega) (by omega), e 4 (by omega) (by omega), e 5 (by omega) (by omega), e 6 (by omega) (by omega), s90]
  refine ⟨⟨by omega, by omega⟩, ⟨by omega, by omega⟩, ⟨by omega, by omega⟩, ⟨by omega, by omega⟩, ⟨by omega, by omega⟩, ?_⟩
  have cA : kk_cA 12 227 [zI (S (x3 + 1)), zI (S (x3 + 2)), zI (S (x3 + 3)), zI (S (x3 + 4)), zI (S (x3 + 5))] b h dh nx ns kk_SI := kk_cAc hy hb hs (c_12 (hy := hy) (hc := hc) (hb := by omega) (ht := sr _ (by omega) (by omega)) (hn := sr _ (by omega) (by omega)) (hl := sr _ (by omega) (by omega)) (hk := sr _ (by omega) (by omega)) (hq := sr _ (by omega) (by omega)))
  refine mm_Clm ?_ cA
  rintro r h1 ⟨⟨y, er, _⟩, g, dh1, eg, g90, c2⟩
  subst er eg
  rw [mm_pI, r_297_21_27 (hy := hy)]
  simp only [e 1 (by omega) (by omega), e 2 (by omega) (by omega), e 3 (by omega) (by omega), e 4 (by omega) (by omega), e 5 (by omega) (by omega), e 6 (by omega) (by omega), g90, s90]
  refine ⟨⟨by omega, by omega⟩, ⟨by omega, by omega⟩, ⟨by omega, by omega⟩, ⟨by omega, by omega⟩, ⟨by omega, by omega⟩, ?_⟩
  refine mm_Clm ?_ c2
  rintro r2 h2 ⟨e1, g2, e2, core, sI, q90⟩
  subst e1 e2
  rw [mm_pI, r_297_21_54 (hy := hy), if_pos rfl]
  exact K g2 dh1 core sI (fun j => by rw [q90 j, s90 j])
theorem kk_case12 (hy : 5306 ≤ nx) (hc : kk_core b h dh) (hs : kk_sI h) (hb : b + 1600 ≤ 1000000) (L : kk_LW h S N x3) (K : ∀ g d, kk_core (b + 1600) g d → kk_sI g → (∀ j, g (90, 0, 0) j = S j) → mm_Wp 297 (mm_blk 297 82) [zR (90, 0, 0), zR (1, 0, 0), zR (40, 0, 0), zI x3] [] (mm_z g d nx ns) Q) : mm_Wp 297 (mm_blk 297 22) [zR (90, 0, 0), zR (1, 0, 0), zR (40, 0, 0), zI x3] [] (mm_z h dh nx ns) Q := by
  obtain ⟨s90, sN, x30, sr⟩ := L
  have e : ∀ i : Int, 1 ≤ i → i ≤ 6 → mm_w (x3 + i) = x3 + i := fun i i0 i1 => mm_wi (by omega) (by omega)
  rw [r_297_22 (hy := hy)]
  simp only [e 1 (by omega) (by omega), e 2 (by omega) (by omega), e 3 (by omega) (by omega), e 4 (by omega) (by omega), e 5 (by omega) (by omega), e 6 (by omega) (by omega), s90]
  refine ⟨⟨by omega, by omega⟩, ⟨by omega, by omega⟩, ⟨by omega, by omega⟩, ?_⟩
  have cA : kk_cA 13 228 [zI (S (x3 + 1)), zI (S (x3 + 2)), zI (S (x3 + 3))] b h dh nx ns kk_SI := kk_cAc hy hb hs (c_13 (hy := hy) (hc := hc) (hb := by omega) (ht := sr _ (by omega) (by omega)) (hn := sr _ (by omega) (by omega)) (hk := sr _ (by omega) (by omega)))
  refine mm_Clm ?_ cA
  rintro r h1 ⟨⟨y, er, _⟩, g, dh1, eg, g90, c2⟩
  subst er eg
  rw [mm_pI, r_297_22_17 (hy := hy)]
  simp only [e 1 (by omega) (by omega), e 2 (by omega) (by omega), e 3 (by omega) (by omega), e 4 (by omega) (by omega), e 5 (by omega) (by omega), e 6 (by omega) (by omega), g90, s90]
  refine ⟨⟨by omega, by omega⟩, ⟨by omega, by omega⟩, ⟨by omega, by omega⟩, ?_⟩
  refine mm_Clm ?_ c2
  rintro r2 h2 ⟨e1, g2, e2, core, sI, q90⟩
  subst e1 e2
  rw [mm_pI, r_297_22_34 (hy := hy), if_pos rfl]
  exact K g2 dh1 core sI (fun j => by rw [q90 j, s90 j])
theorem kk_case13 (hy : 5306 ≤ nx) (hc : kk_core b h dh) (hs : kk_sI h) (hb : b + 1600 ≤ 1000000) (L : kk_LW h S N x3) (K : ∀ g d, kk_core (b + 1600) g d → kk_sI g → (∀ j, g (90, 0, 0) j = S j) → mm_Wp 297 (mm_blk 297 82) [zR (90, 0, 0), zR (1, 0, 0), zR (40, 0, 0), zI x3] [] (mm_z g d nx ns) Q) : mm_Wp 297 (mm_blk 297 23) [zR (90, 0, 0), zR (1, 0, 0), zR (40, 0, 0), zI x3] [] (mm_z h dh nx ns) Q := by
  obtain ⟨s90, sN, x30, sr⟩ := L
  have e : ∀ i : Int, 1 ≤ i → i ≤ 6 → mm_w (x3 + i) = x3 + i := fun i i0 i1 => mm_wi (by omega) (by omega)
  rw [r_297_23 (hy := hy)]
  simp only [e 1 (by omega) (by omega), e 2 (by omega) (by omega), e 3 (by omega) (by omega), e 4 (by omega) (by omega), e 5 (by omega) (by omega), e 6 (by omega) (by omega), s90]
  refine ⟨⟨by omega, by omega⟩, ⟨by omega, by omega⟩, ⟨by omega, by omega⟩, ?_⟩
  have cA : kk_cA 14 229 [zI (S (x3 + 1)), zI (S (x3 + 2)), zI (S (x3 + 3))] b h dh nx ns kk_SI := kk_cAc hy hb hs (c_14 (hy := hy) (hc := hc) (hb := by omega) (ht := sr _ (by omega) (by omega)) (hn := sr _ (by omega) (by omega)) (hk := sr _ (by omega) (by omega)))
  refine mm_Clm ?_ cA
  rintro r h1 ⟨⟨y, er, _⟩, g, dh1, eg, g90, c2⟩
  subst er eg
  rw [mm_pI, r_297_23_17 (hy := hy)]
  simp only [e 1 (by omega) (by omega), e 2 (by omega) (by omega), e 3 (by omega) (by omega), e 4 (by omega) (by omega), e 5 (by omega) (by omega), e 6 (by omega) (by omega), g90, s90]
  refine ⟨⟨by omega, by omega⟩, ⟨by omega, by omega⟩, ⟨by omega, by omega⟩, ?_⟩
  refine mm_Clm ?_ c2
  rintro r2 h2 ⟨e1, g2, e2, core, sI, q90⟩
  subst e1 e2
  rw [mm_pI, r_297_23_34 (hy := hy), if_pos rfl]
  exact K g2 dh1 core sI (fun j => by rw [q90 j, s90 j])
theorem kk_case14 (hy : 5306 ≤ nx) (hc : kk_core b h dh) (hs : kk_sI h) (hb : b + 1600 ≤ 1000000) (L : kk_LW h S N x3) (K : ∀ g d, kk_core (b + 1600) g d → kk_sI g → (∀ j, g (90, 0, 0) j = S j) → mm_Wp 297 (mm_blk 297 82) [zR (90, 0, 0), zR (1, 0, 0), zR (40, 0, 0), zI x3] [] (mm_z g d nx ns) Q) : mm_Wp 297 (mm_blk 297 24) [zR (90, 0, 0), zR (1, 0, 0), zR (40, 0, 0), zI x3] [] (mm_z h dh nx ns) Q := by
  obtain ⟨s90, sN, x30, sr⟩ := L
  have e : ∀ i : Int, 1 ≤ i → i ≤ 6 → mm_w (x3 + i) = x3 + i := fun i i0 i1 => mm_wi (by omega) (by omega)
  rw [r_297_24 (hy := hy)]
  simp only [e 1 (by omega) (by omega), e 2 (by omega) (by omega), e 3 (by omega) (by omega), e 4 (by omega) (by omega), e 5 (by omega) (by omega), e 6 (by omega) (by omega), s90]
  refine ⟨⟨by omega, by omega⟩, ⟨by omega, by omega⟩, ⟨by omega, by omega⟩, ?_⟩
  have cA : kk_cA 15 230 [zI (S (x3 + 1)), zI (S (x3 + 2)), zI (S (x3 + 3))] b h dh nx ns kk_SI := kk_cAc hy hb hs (c_15 (hy := hy) (hc := hc) (hb := by omega) (ht := sr _ (by omega) (by omega)) (hn := sr _ (by omega) (by omega)) (hk := sr _ (by omega) (by omega)))
  refine mm_Clm ?_ cA
  rintro r h1 ⟨⟨y, er, _⟩, g, dh1, eg, g90, c2⟩
  subst er eg
  rw [mm_pI, r_297_24_17 (hy := hy)]
  simp only [e 1 (by omega) (by omega), e 2 (by omega) (by omega), e 3 (by omega) (by omega), e 4 (by omega) (by omega), e 5 (by omega) (by omega), e 6 (by omega) (by omega), g90, s90]
  refine ⟨⟨by omega, by omega⟩, ⟨by omega, by omega⟩, ⟨by omega, by omega⟩, ?_⟩
  refine mm_Clm ?_ c2
  rintro r2 h2 ⟨e1, g2, e2, core, sI, q90⟩
  subst e1 e2
  rw [mm_pI, r_297_24_34 (hy := hy), if_pos rfl]
  exact K g2 dh1 core sI (fun j => by rw [q90 j, s90 j])
theorem kk_case15 (hy : 5306 ≤ nx) (hc : kk_core b h dh) (hs : kk_sI h) (hb : b + 1600 ≤ 1000000) (L : kk_LW h S N x3) (K : ∀ g d, kk_core (b + 1600) g d → kk_sI g → (∀ j, g (90, 0, 0) j = S j) → mm_Wp 297 (mm_blk 297 82) [zR (90, 0, 0), zR (1, 0, 0), zR (40, 0, 0), zI x3] [] (mm_z g d nx ns) Q) : mm_Wp 297 (mm_blk 297 25) [zR (90, 0, 0), zR (1, 0, 0), zR (40, 0, 0), zI x3] [] (mm_z h dh nx ns) Q := by
  obtain ⟨s90, sN, x30, sr⟩ := L
  have e : ∀ i : Int, 1 ≤ i → i ≤ 6 → mm_w (x3 + i) = x3 + i := fun i i0 i1 => mm_wi (by omega) (by omega)
  rw [r_297_25 (hy := hy)]
  simp only [e 1 (by omega) (by omega), e 2 (by omega) (by omega), e 3 (by omega) (by omega), e 4 (by omega) (by omega), e 5 (by omega) (by omega), e 6 (by omega) (by omega), s90]
  refine ⟨⟨by omega, by omega⟩, ⟨by omega, by omega⟩, ⟨by omega, by omega⟩, ?_⟩
  have cA : kk_cA 16 232 [zI (S (x3 + 1)), zI (S (x3 + 2)), zI (S (x3 + 3))] b h dh nx ns kk_SI := kk_cAc hy hb hs (c_16 (hy := hy) (hc := hc) (hb := by omega) (ht := sr _ (by omega) (by omega)) (hn := sr _ (by omega) (by omega)) (hk := sr _ (by omega) (by omega)))
  refine mm_Clm ?_ cA
  rintro r h1 ⟨⟨y, er, _⟩, g, dh1, eg, g90, c2⟩
  subst er eg
  rw [mm_pI, r_297_25_17 (hy := hy)]
  simp only [e 1 (by omega) (by omega), e 2 (by omega) (by omega), e 3 (by omega) (by omega), e 4 (by omega) (by omega), e 5 (by omega) (by omega), e 6 (by omega) (by omega), g90, s90]
  refine ⟨⟨by omega, by omega⟩, ⟨by omega, by omega⟩, ⟨by omega, by omega⟩, ?_⟩
  refine mm_Clm ?_ c2
  rintro r2 h2 ⟨e1, g2, e2, core, sI, q90⟩
  subst e1 e2
  rw [mm_pI, r_297_25_34 (hy := hy), if_pos rfl]
  exact K g2 dh1 core sI (fun j => by rw [q90 j, s90 j])
theorem kk_case16 (hy : 5306 ≤ nx) (hc : kk_core b h dh) (hs : kk_sI h) (hb : b + 1600 ≤ 1000000) (L : kk_LW h S N x3) (K : ∀ g d, kk_core (b + 1600) g d → kk_sI g → (∀ j, g (90, 0, 0) j = S j) → mm_Wp 297 (mm_blk 297 82) [zR (90, 0, 0), zR (1, 0, 0), zR (40, 0, 0), zI x3] [] (mm_z g d nx ns) Q) : mm_Wp 297 (mm_blk 297 26) [zR (90, 0, 0), zR (1, 0, 0), zR (40, 0, 0), zI x3] [] (mm_z h dh nx ns) Q := by
  obtain ⟨s90, sN, x30, sr⟩ := L
  have e : ∀ i : Int, 1 ≤ i → i ≤ 6 → mm_w (x3 + i) = x3 + i := fun i i0 i1 => mm_wi (by omega) (by omega)
  rw [r_297_26 (hy := hy)]
  simp only [e 1 (by omega) (by omega), e 2 (by omega) (by omega), e 3 (by omega) (by omega), e 4 (by omega) (by omega), e 5 (by omega) (by omega), e 6 (by omega) (by omega), s90]
  refine ⟨⟨by omega, by omega⟩, ⟨by omega, by omega⟩, ⟨by omega, by omega⟩, ⟨by omega, by omega⟩, ⟨by omega, by omega⟩, ⟨by omega, by omega⟩, ?_⟩
  by_cases t : S (x3 + 6) = 0
  · rw [if_pos t, r_297_28 (hy := hy)]
    have cA : kk_cA 17 235 [zI (S (x3 + 1)), zI (S (x3 + 2)), zI (S (x3 + 3)), zL (mm_lor (mm_lshl (S (x3 + 4)) 32) (mm_land (S (x3 + 5)) 4294967295)), zI 0] b h dh nx ns kk_SI := kk_cAc hy hb hs (c_17 (hy := hy) (hc := hc) (hb := by omega) (ht := sr _ (by omega) (by omega)) (hn := sr _ (by omega) (by omega)) (hk := sr _ (by omega) (by omega)) (hl := kk_lorr _ _) (hm := Or.inl rfl))
    refine mm_Clm ?_ cA
    rintro r h1 ⟨⟨y, er, _⟩, g, dh1, eg, g90, c2⟩
    subst er eg
    rw [mm_pI, r_297_28_1 (hy := hy)]
    simp only [e 1 (by omega) (by omega), e 2 (by omega) (by omega), e 3 (by omega) (by omega), e 4 (by omega) (by omega), e 5 (by omega) (by omega), e 6 (by omega) (by omega), g90, s90]
    refine ⟨⟨by omega, by omega⟩, ⟨by omega, by omega⟩, ⟨by omega, by omega⟩, ⟨by omega, by omega⟩, ⟨by omega, by omega⟩, ⟨by omega, by omega⟩, ?_⟩
    rw [if_pos t, r_297_30 (hy := hy)]
    refine mm_Clm ?_ c2
    rintro r2 h2 ⟨e1, g2, e2, core, sI, q90⟩
    subst e1 e2
    rw [mm_pI, r_297_30_1 (hy := hy), if_pos rfl]
    exact K g2 dh1 core sI (fun j => by rw [q90 j, s90 j])
  · rw [if_neg t, r_297_28 (hy := hy)]
    have cA : kk_cA 17 235 [zI (S (x3 + 1)), zI (S (x3 + 2)), zI (S (x3 + 3)), zL (mm_lor (mm_lshl (S (x3 + 4)) 32) (mm_land (S (x3 + 5)) 4294967295)), zI 1] b h dh nx ns kk_SI := kk_cAc hy hb hs (c_17 (hy := hy) (hc := hc) (hb := by omega) (ht := sr _ (by omega) (by omega)) (hn := sr _ (by omega) (by omega)) (hk := sr _ (by omega) (by omega)) (hl := kk_lorr _ _) (hm := Or.inr rfl))
    refine mm_Clm ?_ cA
    rintro r h1 ⟨⟨y, er, _⟩, g, dh1, eg, g90, c2⟩
    subst er eg
    rw [mm_pI, r_297_28_1 (hy := hy)]
    simp only [e 1 (by omega) (by omega), e 2 (by omega) (by omega), e 3 (by omega) (by omega), e 4 (by omega) (by omega), e 5 (by omega) (by omega), e 6 (by omega) (by omega), g90, s90]
    refine ⟨⟨by omega, by omega⟩, ⟨by omega, by omega⟩, ⟨by omega, by omega⟩, ⟨by omega, by omega⟩, ⟨by omega, by omega⟩, ⟨by omega, by omega⟩, ?_⟩
    rw [if_neg t, r_297_30 (hy := hy)]
    refine mm_Clm ?_ c2
    rintro r2 h2 ⟨e1, g2, e2, core, sI, q90⟩
    subst e1 e2
    rw [mm_pI, r_297_30_1 (hy := hy), if_pos rfl]
    exact K g2 dh1 core sI (fun j => by rw [q90 j, s90 j])
theorem kk_case17 (hy : 5306 ≤ nx) (hc : kk_core b h dh) (hs : kk_sI h) (hb : b + 1600 ≤ 1000000) (L : kk_LW h S N x3) (K : ∀ g d, kk_core (b + 1600) g d → kk_sI g → (∀ j, g (90, 0, 0) j = S j) → mm_Wp 297 (mm_blk 297 82) [zR (90, 0, 0), zR (1, 0, 0), zR (40, 0, 0), zI x3] [] (mm_z g d nx ns) Q) : mm_Wp 297 (mm_blk 297 31) [zR (90, 0, 0), zR (1, 0, 0), zR (40, 0, 0), zI x3] [] (mm_z h dh nx ns) Q := by
  obtain ⟨s90, sN, x30, sr⟩ := L
  have e : ∀ i : Int, 1 ≤ i → i ≤ 6 → mm_w (x3 + i) = x3 + i := fun i i0 i1 => mm_wi (by omega) (by omega)
  rw [r_297_31 (hy := hy)]
  simp only [e 1 (by omega) (by omega), e 2 (by omega) (by omega), e 3 (by omega) (by omega), e 4 (by omega) (by omega), e 5 (by omega) (by omega), e 6 (by omega) (by omega), s90]
  refine ⟨⟨by omega, by omega⟩, ⟨by omega, by omega⟩, ⟨by omega, by omega⟩, ?_⟩
  have cA : kk_cA 18 236 [zI (S (x3 + 1)), zI (S (x3 + 2)), zI (S (x3 + 3))] b h dh nx ns kk_SL := kk_cAc hy hb hs (c_18 (hy := hy) (hc := hc) (hb := by omega) (ht := sr _ (by omega) (by omega)) (hn := sr _ (by omega) (by omega)) (hk := sr _ (by omega) (by omega)))
  refine mm_Clm ?_ cA
  rintro r h1 ⟨⟨y, er, _⟩, g, dh1, eg, g90, c2⟩
  subst er eg
  rw [mm_pL, r_297_31_17 (hy := hy)]
  simp only [e 1 (by omega) (by omega), e 2 (by omega) (by omega), e 3 (by omega) (by omega), e 4 (by omega) (by omega), e 5 (by omega) (by omega), e 6 (by omega) (by omega), g90, s90]
  refine ⟨⟨by omega, by omega⟩, ⟨by omega, by omega⟩, ⟨by omega, by omega⟩, ?_⟩
  refine mm_Clm ?_ c2
  rintro r2 h2 ⟨e1, g2, e2, core, sI, q90⟩
  subst e1 e2
  rw [mm_pL, r_297_31_34 (hy := hy), if_pos (mm_cmp0.2 rfl)]
  exact K g2 dh1 core sI (fun j => by rw [q90 j, s90 j])
theorem kk_case18 (hy : 5306 ≤ nx) (hc : kk_core b h dh) (hs : kk_sI h) (hb : b + 1600 ≤ 1000000) (L : kk_LW h S N x3) (K : ∀ g d, kk_core (b + 1600) g d → kk_sI g → (∀ j, g (90, 0, 0) j = S j) → mm_Wp 297 (mm_blk 297 82) [zR (90, 0, 0), zR (1, 0, 0), zR (40, 0, 0), zI x3] [] (mm_z g d nx ns) Q) : mm_Wp 297 (mm_blk 297 32) [zR (90, 0, 0), zR (1, 0, 0), zR (40, 0, 0), zI x3] [] (mm_z h dh nx ns) Q := by
  obtain ⟨s90, sN, x30, sr⟩ := L
  have e : ∀ i : Int, 1 ≤ i → i ≤ 6 → mm_w (x3 + i) = x3 + i := fun i i0 i1 => mm_wi (by omega) (by omega)
  rw [r_297_32 (hy := hy)]
  simp only [e 1 (by omega) (by omega), e 2 (by omega) (by omega), e 3 (by omega) (by omega), e 4 (by omega) (by omega), e 5 (by omega) (by omega), e 6 (by omega) (by omega), s90]
  refine ⟨⟨by omega, by omega⟩, ⟨by omega, by omega⟩, ⟨by omega, by omega⟩, ?_⟩
  have cA : kk_cA 19 237 [zI (S (x3 + 1)), zI (S (x3 + 2)), zI (S (x3 + 3))] b h dh nx ns kk_SI := kk_cAc hy hb hs (c_19 (hy := hy) (hc := hc) (hb := by omega) (ht := sr _ (by omega) (by omega)) (hn := sr _ (by omega) (by omega)) (hk := sr _ (by omega) (by omega)))
  refine mm_Clm ?_ cA
  rintro r h1 ⟨⟨y, er, _⟩, g, dh1, eg, g90, c2⟩
  subst er eg
  rw [mm_pI, r_297_32_17 (hy := hy)]
  simp only [e 1 (by omega) (by omega), e 2 (by omega) (by omega), e 3 (by omega) (by omega), e 4 (by omega) (by omega), e 5 (by omega) (by omega), e 6 (by omega) (by omega), g90, s90]
  refine ⟨⟨by omega, by omega⟩, ⟨by omega, by omega⟩, ⟨by omega, by omega⟩, ?_⟩
  refine mm_Clm ?_ c2
  rintro r2 h2 ⟨e1, g2, e2, core, sI, q90⟩
  subst e1 e2
  rw [mm_pI, r_297_32_34 (hy := hy), if_pos rfl]
  exact K g2 dh1 core sI (fun j => by rw [q90 j, s90 j])
theorem kk_case19 (hy : 5306 ≤ nx) (hc : kk_core b h dh) (hs : kk_sI h) (hb : b + 1600 ≤ 1000000) (L : kk_LW h S N x3) (K : ∀ g d, kk_core (b + 1600) g d → kk_sI g → (∀ j, g (90, 0, 0) j = S j) → mm_Wp 297 (mm_blk 297 82) [zR (90, 0, 0), zR (1, 0, 0), zR (40, 0, 0), zI x3] [] (mm_z g d nx ns) Q) : mm_Wp 297 (mm_blk 297 33) [zR (90, 0, 0), zR (1, 0, 0), zR (40, 0, 0), zI x3] [] (mm_z h dh nx ns) Q := by
  obtain ⟨s90, sN, x30, sr⟩ := L
  have e : ∀ i : Int, 1 ≤ i → i ≤ 6 → mm_w (x3 + i) = x3 + i := fun i i0 i1 => mm_wi (by omega) (by omega)
  rw [r_297_33 (hy := hy)]
  simp only [e 1 (by omega) (by omega), e 2 (by omega) (by omega), e 3 (by omega) (by omega), e 4 (by omega) (by omega), e 5 (by omega) (by omega), e 6 (by omega) (by omega), s90]
  refine ⟨⟨by omega, by omega⟩, ?_⟩
  have cA : kk_cA 20 238 [zI (S (x3 + 1))] b h dh nx ns kk_SI := kk_cAc hy hb hs (c_20 (hy := hy) (hc := hc) (hb := by omega) (ht := sr _ (by omega) (by omega)))
  refine mm_Clm ?_ cA
  rintro r h1 ⟨⟨y, er, _⟩, g, dh1, eg, g90, c2⟩
  subst er eg
  rw [mm_pI, r_297_33_7 (hy := hy)]
  simp only [e 1 (by omega) (by omega), e 2 (by omega) (by omega), e 3 (by omega) (by omega), e 4 (by omega) (by omega), e 5 (by omega) (by omega), e 6 (by omega) (by omega), g90, s90]
  refine ⟨⟨by omega, by omega⟩, ?_⟩
  refine mm_Clm ?_ c2
  rintro r2 h2 ⟨e1, g2, e2, core, sI, q90⟩
  subst e1 e2
  rw [mm_pI, r_297_33_14 (hy := hy), if_pos rfl]
  exact K g2 dh1 core sI (fun j => by rw [q90 j, s90 j])
theorem kk_case20 (hy : 5306 ≤ nx) (hc : kk_core b h dh) (hs : kk_sI h) (hb : b + 1600 ≤ 1000000) (L : kk_LW h S N x3) (K : ∀ g d, kk_core (b + 1600) g d → kk_sI g → (∀ j, g (90, 0, 0) j = S j) → mm_Wp 297 (mm_blk 297 82) [zR (90, 0, 0), zR (1, 0, 0), zR (40, 0, 0), zI x3] [] (mm_z g d nx ns) Q) : mm_Wp 297 (mm_blk 297 34) [zR (90, 0, 0), zR (1, 0, 0), zR (40, 0, 0), zI x3] [] (mm_z h dh nx ns) Q := by
  obtain ⟨s90, sN, x30, sr⟩ := L
  have e : ∀ i : Int, 1 ≤ i → i ≤ 6 → mm_w (x3 + i) = x3 + i := fun i i0 i1 => mm_wi (by omega) (by omega)
  rw [r_297_34 (hy := hy)]
  simp only [e 1 (by omega) (by omega), e 2 (by omega) (by omega), e 3 (by omega) (by omega), e 4 (by omega) (by omega), e 5 (by omega) (by omega), e 6 (by omega) (by omega), s90]
  refine ⟨⟨by omega, by omega⟩, ⟨by omega, by omega⟩, ?_⟩
  have cA : kk_cA 21 239 [zI (S (x3 + 1)), zI (S (x3 + 2))] b h dh nx ns kk_SI := kk_cAc hy hb hs (c_21 (hy := hy) (hc := hc) (hb := by omega) (ht := sr _ (by omega) (by omega)) (hn := sr _ (by omega) (by omega)))
  refine mm_Clm ?_ cA
  rintro r h1 ⟨⟨y, er, _⟩, g, dh1, eg, g90, c2⟩
  subst er eg
  rw [mm_pI, r_297_34_12 (hy := hy)]
  simp only [e 1 (by omega) (by omega), e 2 (by omega) (by omega), e 3 (by omega) (by omega), e 4 (by omega) (by omega), e 5 (by omega) (by omega), e 6 (by omega) (by omega), g90, s90]
  refine ⟨⟨by omega, by omega⟩, ⟨by omega, by omega⟩, ?_⟩
  refine mm_Clm ?_ c2
  rintro r2 h2 ⟨e1, g2, e2, core, sI, q90⟩
  subst e1 e2
  rw [mm_pI, r_297_34_24 (hy := hy), if_pos rfl]
  exact K g2 dh1 core sI (fun j => by rw [q90 j, s90 j])
theorem kk_case21 (hy : 5306 ≤ nx) (hc : kk_core b h dh) (hs : kk_sI h) (hb : b + 1600 ≤ 1000000) (L : kk_LW h S N x3) (K : ∀ g d, kk_core (b + 1600) g d → kk_sI g → (∀ j, g (90, 0, 0) j = S j) → mm_Wp 297 (mm_blk 297 82) [zR (90, 0, 0), zR (1, 0, 0), zR (40, 0, 0), zI x3] [] (mm_z g d nx ns) Q) : mm_Wp 297 (mm_blk 297 35) [zR (90, 0, 0), zR (1, 0, 0), zR (40, 0, 0), zI x3] [] (mm_z h dh nx ns) Q := by
  obtain ⟨s90, sN, x30, sr⟩ := L
  have e : ∀ i : Int, 1 ≤ i → i ≤ 6 → mm_w (x3 + i) = x3 + i := fun i i0 i1 => mm_wi (by omega) (by omega)
  rw [r_297_35 (hy := hy)]
  simp only [e 1 (by omega) (by omega), e 2 (by omega) (by omega), e 3 (by omega) (by omega), e 4 (by omega) (by omega), e 5 (by omega) (by omega), e 6 (by omega) (by omega), s90]
  refine ⟨⟨by omega, by omega⟩, ⟨by omega, by omega⟩, ⟨by omega, by omega⟩, ?_⟩
  have cA : kk_cA 22 240 [zI (S (x3 + 1)), zI (S (x3 + 2)), zI (S (x3 + 3))] b h dh nx ns kk_SI := kk_cAc hy hb hs (c_22 (hy := hy) (hc := hc) (hb := by omega) (ht := sr _ (by omega) (by omega)) (hn := sr _ (by omega) (by omega)) (hk := sr _ (by omega) (by omega)))
  refine mm_Clm ?_ cA
  rintro r h1 ⟨⟨y, er, _⟩, g, dh1, eg, g90, c2⟩
  subst er eg
  rw [mm_pI, r_297_35_17 (hy := hy)]
  simp only [e 1 (by omega) (by omega), e 2 (by omega) (by omega), e 3 (by omega) (by omega), e 4 (by omega) (by omega), e 5 (by omega) (by omega), e 6 (by omega) (by omega), g90, s90]
  refine ⟨⟨by omega, by omega⟩, ⟨by omega, by omega⟩, ⟨by omega, by omega⟩, ?_⟩
  refine mm_Clm ?_ c2
  rintro r2 h2 ⟨e1, g2, e2, core, sI, q90⟩
  subst e1 e2
  rw [mm_pI, r_297_35_34 (hy := hy), if_pos rfl]
  exact K g2 dh1 core sI (fun j => by rw [q90 j, s90 j])
theorem kk_case22 (hy : 5306 ≤ nx) (hc : kk_core b h dh) (hs : kk_sI h) (hb : b + 1600 ≤ 1000000) (L : kk_LW h S N x3) (K : ∀ g d, kk_core (b + 1600) g d → kk_sI g → (∀ j, g (90, 0, 0) j = S j) → mm_Wp 297 (mm_blk 297 82) [zR (90, 0, 0), zR (1, 0, 0), zR (40, 0, 0), zI x3] [] (mm_z g d nx ns) Q) : mm_Wp 297 (mm_blk 297 36) [zR (90, 0, 0), zR (1, 0, 0), zR (40, 0, 0), zI x3] [] (mm_z h dh nx ns) Q := by
  obtain ⟨s90, sN, x30, sr⟩ := L
  have e : ∀ i : Int, 1 ≤ i → i ≤ 6 → mm_w (x3 + i) = x3 + i := fun i i0 i1 => mm_wi (by omega) (by omega)
  rw [r_297_36 (hy := hy)]
  simp only [e 1 (by omega) (by omega), e 2 (by omega) (by omega), e 3 (by omega) (by omega), e 4 (by omega) (by omega), e 5 (by omega) (by omega), e 6 (by omega) (by omega), s90]
  refine ⟨⟨by omega, by omega⟩, ⟨by omega, by omega⟩, ⟨by omega, by omega⟩, ⟨by omega, by omega⟩, ?_⟩
  have cA : kk_cA 23 246 [zI (S (x3 + 1)), zI (S (x3 + 2)), zI (S (x3 + 3)), zI (S (x3 + 4))] b h dh nx ns kk_SI := kk_cAc hy hb hs (c_23 (hy := hy) (hc := hc) (hb := by omega) (ht := sr _ (by omega) (by omega)) (hn := sr _ (by omega) (by omega)) (hk := sr _ (by omega) (by omega)) (hl := sr _ (by omega) (by omega)))
  refine mm_Clm ?_ cA
  rintro r h1 ⟨⟨y, er, _⟩, g, dh1, eg, g90, c2⟩
  subst er eg
  rw [mm_pI, r_297_36_22 (hy := hy)]
  simp only [e 1 (by omega) (by omega), e 2 (by omega) (by omega), e 3 (by omega) (by omega), e 4 (by omega) (by omega), e 5 (by omega) (by omega), e 6 (by omega) (by omega), g90, s90]
  refine ⟨⟨by omega, by omega⟩, ⟨by omega, by omega⟩, ⟨by omega, by omega⟩, ⟨by omega, by omega⟩, ?_⟩
  refine mm_Clm ?_ c2
  rintro r2 h2 ⟨e1, g2, e2, core, sI, q90⟩
  subst e1 e2
  rw [mm_pI, r_297_36_44 (hy := hy), if_pos rfl]
  exact K g2 dh1 core sI (fun j => by rw [q90 j, s90 j])
theorem kk_case23 (hy : 5306 ≤ nx) (hc : kk_core b h dh) (hs : kk_sI h) (hb : b + 1600 ≤ 1000000) (L : kk_LW h S N x3) (K : ∀ g d, kk_core (b + 1600) g d → kk_sI g → (∀ j, g (90, 0, 0) j = S j) → mm_Wp 297 (mm_blk 297 82) [zR (90, 0, 0), zR (1, 0, 0), zR (40, 0, 0), zI x3] [] (mm_z g d nx ns) Q) : mm_Wp 297 (mm_blk 297 37) [zR (90, 0, 0), zR (1, 0, 0), zR (40, 0, 0), zI x3] [] (mm_z h dh nx ns) Q := by
  obtain ⟨s90, sN, x30, sr⟩ := L
  have e : ∀ i : Int, 1 ≤ i → i ≤ 6 → mm_w (x3 + i) = x3 + i := fun i i0 i1 => mm_wi (by omega) (by omega)
  rw [r_297_37 (hy := hy)]
  simp only [e 1 (by omega) (by omega), e 2 (by omega) (by omega), e 3 (by omega) (by omega), e 4 (by omega) (by omega), e 5 (by omega) (by omega), e 6 (by omega) (by omega), s90]
  refine ⟨⟨by omega, by omega⟩, ⟨by omega, by omega⟩, ?_⟩
  have cA : kk_cA 24 247 [zI (S (x3 + 1)), zI (S (x3 + 2))] b h dh nx ns kk_SI := kk_cAc hy hb hs (c_24 (hy := hy) (hc := hc) (hb := by omega) (ht := sr _ (by omega) (by omega)) (hn := sr _ (by omega) (by omega)))
  refine mm_Clm ?_ cA
  rintro r h1 ⟨⟨y, er, _⟩, g, dh1, eg, g90, c2⟩
  subst er eg
  rw [mm_pI, r_297_37_12 (hy := hy)]
  simp only [e 1 (by omega) (by omega), e 2 (by omega) (by omega), e 3 (by omega) (by omega), e 4 (by omega) (by omega), e 5 (by omega) (by omega), e 6 (by omega) (by omega), g90, s90]
  refine ⟨⟨by omega, by omega⟩, ⟨by omega, by omega⟩, ?_⟩
  refine mm_Clm ?_ c2
  rintro r2 h2 ⟨e1, g2, e2, core, sI, q90⟩
  subst e1 e2
  rw [mm_pI, r_297_37_24 (hy := hy), if_pos rfl]
  exact K g2 dh1 core sI (fun j => by rw [q90 j, s90 j])
theorem kk_case24 (hy : 5306 ≤ nx) (hc : kk_core b h dh) (hs : kk_sI h) (hb : b + 1600 ≤ 1000000) (L : kk_LW h S N x3) (K : ∀ g d, kk_core (b + 1600) g d → kk_sI g → (∀ j, g (90, 0, 0) j = S j) → mm_Wp 297 (mm_blk 297 82) [zR (90, 0, 0), zR (1, 0, 0), zR (40, 0, 0), zI x3] [] (mm_z g d nx ns) Q) : mm_Wp 297 (mm_blk 297 38) [zR (90, 0, 0), zR (1, 0, 0), zR (40, 0, 0), zI x3] [] (mm_z h dh nx ns) Q := by
  obtain ⟨s90, sN, x30, sr⟩ := L
  have e : ∀ i : Int, 1 ≤ i → i ≤ 6 → mm_w (x3 + i) = x3 + i := fun i i0 i1 => mm_wi (by omega) (by omega)
  rw [r_297_38 (hy := hy)]
  simp only [e 1 (by omega) (by omega), e 2 (by omega) (by omega), e 3 (by omega) (by omega), e 4 (by omega) (by omega), e 5 (by omega) (by omega), e 6 (by omega) (by omega), s90]
  refine ⟨⟨by omega, by omega⟩, ⟨by omega, by omega⟩, ?_⟩
  have cA : kk_cA 25 241 [zI (S (x3 + 1)), zI (S (x3 + 2))] b h dh nx ns kk_SI := kk_cAc hy hb hs (c_25 (hy := hy) (hc := hc) (hb := by omega) (ht := sr _ (by omega) (by omega)) (hn := sr _ (by omega) (by omega)))
  refine mm_Clm ?_ cA
  rintro r h1 ⟨⟨y, er, _⟩, g, dh1, eg, g90, c2⟩
  subst er eg
  rw [mm_pI, r_297_38_12 (hy := hy)]
  simp only [e 1 (by omega) (by omega), e 2 (by omega) (by omega), e 3 (by omega) (by omega), e 4 (by omega) (by omega), e 5 (by omega) (by omega), e 6 (by omega) (by omega), g90, s90]
  refine ⟨⟨by omega, by omega⟩, ⟨by omega, by omega⟩, ?_⟩
  refine mm_Clm ?_ c2
  rintro r2 h2 ⟨e1, g2, e2, core, sI, q90⟩
  subst e1 e2
  rw [mm_pI, r_297_38_24 (hy := hy), if_pos rfl]
  exact K g2 dh1 core sI (fun j => by rw [q90 j, s90 j])
theorem kk_case25 (hy : 5306 ≤ nx) (hc : kk_core b h dh) (hs : kk_sI h) (hb : b + 1600 ≤ 1000000) (L : kk_LW h S N x3) (K : ∀ g d, kk_core (b + 1600) g d → kk_sI g → (∀ j, g (90, 0, 0) j = S j) → mm_Wp 297 (mm_blk 297 82) [zR (90, 0, 0), zR (1, 0, 0), zR (40, 0, 0), zI x3] [] (mm_z g d nx ns) Q) : mm_Wp 297 (mm_blk 297 39) [zR (90, 0, 0), zR (1, 0, 0), zR (40, 0, 0), zI x3] [] (mm_z h dh nx ns) Q := by
  obtain ⟨s90, sN, x30, sr⟩ := L
  have e : ∀ i : Int, 1 ≤ i → i ≤ 6 → mm_w (x3 + i) = x3 + i := fun i i0 i1 => mm_wi (by omega) (by omega)
  rw [r_297_39 (hy := hy)]
  simp only [e 1 (by omega) (by omega), e 2 (by omega) (by omega), e 3 (by omega) (by omega), e 4 (by omega) (by omega), e 5 (by omega) (by omega), e 6 (by omega) (by omega), s90]
  refine ⟨⟨by omega, by omega⟩, ?_⟩
  have cA : kk_cA 26 243 [zI (S (x3 + 1))] b h dh nx ns kk_SI := kk_cAc hy hb hs (c_26 (hy := hy) (hc := hc) (hb := by omega) (ht := sr _ (by omega) (by omega)))
  refine mm_Clm ?_ cA
  rintro r h1 ⟨⟨y, er, _⟩, g, dh1, eg, g90, c2⟩
  subst er eg
  rw [mm_pI, r_297_39_7 (hy := hy)]
  simp only [e 1 (by omega) (by omega), e 2 (by omega) (by omega), e 3 (by omega) (by omega), e 4 (by omega) (by omega), e 5 (by omega) (by omega), e 6 (by omega) (by omega), g90, s90]
  refine ⟨⟨by omega, by omega⟩, ?_⟩
  refine mm_Clm ?_ c2
  rintro r2 h2 ⟨e1, g2, e2, core, sI, q90⟩
  subst e1 e2
  rw [mm_pI, r_297_39_14 (hy := hy), if_pos rfl]
  exact K g2 dh1 core sI (fun j => by rw [q90 j, s90 j])
theorem kk_case26 (hy : 5306 ≤ nx) (hc : kk_core b h dh) (hs : kk_sI h) (hb : b + 1600 ≤ 1000000) (L : kk_LW h S N x3) (K : ∀ g d, kk_core (b + 1600) g d → kk_sI g → (∀ j, g (90, 0, 0) j = S j) → mm_Wp 297 (mm_blk 297 82) [zR (90, 0, 0), zR (1, 0, 0), zR (40, 0, 0), zI x3] [] (mm_z g d nx ns) Q) : mm_Wp 297 (mm_blk 297 40) [zR (90, 0, 0), zR (1, 0, 0), zR (40, 0, 0), zI x3] [] (mm_z h dh nx ns) Q := by
  obtain ⟨s90, sN, x30, sr⟩ := L
  have e : ∀ i : Int, 1 ≤ i → i ≤ 6 → mm_w (x3 + i) = x3 + i := fun i i0 i1 => mm_wi (by omega) (by omega)
  rw [r_297_40 (hy := hy)]
  simp only [e 1 (by omega) (by omega), e 2 (by omega) (by omega), e 3 (by omega) (by omega), e 4 (by omega) (by omega), e 5 (by omega) (by omega), e 6 (by omega) (by omega), s90]
  refine ⟨⟨by omega, by omega⟩, ⟨by omega, by omega⟩, ?_⟩
  have cA : kk_cA 27 244 [zI (S (x3 + 1)), zI (S (x3 + 2))] b h dh nx ns kk_SI := kk_cAc hy hb hs (c_27 (hy := hy) (hc := hc) (hb := by omega) (ht := sr _ (by omega) (by omega)) (hn := sr _ (by omega) (by omega)))
  refine mm_Clm ?_ cA
  rintro r h1 ⟨⟨y, er, _⟩, g, dh1, eg, g90, c2⟩
  subst er eg
  rw [mm_pI, r_297_40_12 (hy := hy)]
  simp only [e 1 (by omega) (by omega), e 2 (by omega) (by omega), e 3 (by omega) (by omega), e 4 (by omega) (by omega), e 5 (by omega) (by omega), e 6 (by omega) (by omega), g90, s90]
  refine ⟨⟨by omega, by omega⟩, ⟨by omega, by omega⟩, ?_⟩
  refine mm_Clm ?_ c2
  rintro r2 h2 ⟨e1, g2, e2, core, sI, q90⟩
  subst e1 e2
  rw [mm_pI, r_297_40_24 (hy := hy), if_pos rfl]
  exact K g2 dh1 core sI (fun j => by rw [q90 j, s90 j])
theorem kk_case27 (hy : 5306 ≤ nx) (hc : kk_core b h dh) (hs : kk_sI h) (hb : b + 1600 ≤ 1000000) (L : kk_LW h S N x3) (K : ∀ g d, kk_core (b + 1600) g d → kk_sI g → (∀ j, g (90, 0, 0) j = S j) → mm_Wp 297 (mm_blk 297 82) [zR (90, 0, 0), zR (1, 0, 0), zR (40, 0, 0), zI x3] [] (mm_z g d nx ns) Q) : mm_Wp 297 (mm_blk 297 41) [zR (90, 0, 0), zR (1, 0, 0), zR (40, 0, 0), zI x3] [] (mm_z h dh nx ns) Q := by
  obtain ⟨s90, sN, x30, sr⟩ := L
  have e : ∀ i : Int, 1 ≤ i → i ≤ 6 → mm_w (x3 + i) = x3 + i := fun i i0 i1 => mm_wi (by omega) (by omega)
  rw [r_297_41 (hy := hy)]
  simp only [e 1 (by omega) (by omega), e 2 (by omega) (by omega), e 3 (by omega) (by omega), e 4 (by omega) (by omega), e 5 (by omega) (by omega), e 6 (by omega) (by omega), s90]
  refine ⟨⟨by omega, by omega⟩, ?_⟩
  have cA : kk_cA 28 250 [zI (S (x3 + 1))] b h dh nx ns kk_SI := kk_cAc hy hb hs (c_28 (hy := hy) (hc := hc) (hb := by omega) (ht := sr _ (by omega) (by omega)))
  refine mm_Clm ?_ cA
  rintro r h1 ⟨⟨y, er, _⟩, g, dh1, eg, g90, c2⟩
  subst er eg
  rw [mm_pI, r_297_41_7 (hy := hy)]
  simp only [e 1 (by omega) (by omega), e 2 (by omega) (by omega), e 3 (by omega) (by omega), e 4 (by omega) (by omega), e 5 (by omega) (by omega), e 6 (by omega) (by omega), g90, s90]
  refine ⟨⟨by omega, by omega⟩, ?_⟩
  refine mm_Clm ?_ c2
  rintro r2 h2 ⟨e1, g2, e2, core, sI, q90⟩
  subst e1 e2
  rw [mm_pI, r_297_41_14 (hy := hy), if_pos rfl]
  exact K g2 dh1 core sI (fun j => by rw [q90 j, s90 j])
theorem kk_case28 (hy : 5306 ≤ nx) (hc : kk_core b h dh) (hs : kk_sI h) (hb : b + 1600 ≤ 1000000) (L : kk_LW h S N x3) (K : ∀ g d, kk_core (b + 1600) g d → kk_sI g → (∀ j, g (90, 0, 0) j = S j) → mm_Wp 297 (mm_blk 297 82) [zR (90, 0, 0), zR (1, 0, 0), zR (40, 0, 0), zI x3] [] (mm_z g d nx ns) Q) : mm_Wp 297 (mm_blk 297 42) [zR (90, 0, 0), zR (1, 0, 0), zR (40, 0, 0), zI x3] [] (mm_z h dh nx ns) Q := by
  obtain ⟨s90, sN, x30, sr⟩ := L
  have e : ∀ i : Int, 1 ≤ i → i ≤ 6 → mm_w (x3 + i) = x3 + i := fun i i0 i1 => mm_wi (by omega) (by omega)
  rw [r_297_42 (hy := hy)]
  simp only [e 1 (by omega) (by omega), e 2 (by omega) (by omega), e 3 (by omega) (by omega), e 4 (by omega) (by omega), e 5 (by omega) (by omega), e 6 (by omega) (by omega), s90]
  refine ⟨⟨by omega, by omega⟩, ?_⟩
  have cA : kk_cA 29 251 [zI (S (x3 + 1))] b h dh nx ns kk_SI := kk_cAc hy hb hs (c_29 (hy := hy) (hc := hc) (hb := by omega) (ht := sr _ (by omega) (by omega)))
  refine mm_Clm ?_ cA
  rintro r h1 ⟨⟨y, er, _⟩, g, dh1, eg, g90, c2⟩
  subst er eg
  rw [mm_pI, r_297_42_7 (hy := hy)]
  simp only [e 1 (by omega) (by omega), e 2 (by omega) (by omega), e 3 (by omega) (by omega), e 4 (by omega) (by omega), e 5 (by omega) (by omega), e 6 (by omega) (by omega), g90, s90]
  refine ⟨⟨by omega, by omega⟩, ?_⟩
  refine mm_Clm ?_ c2
  rintro r2 h2 ⟨e1, g2, e2, core, sI, q90⟩
  subst e1 e2
  rw [mm_pI, r_297_42_14 (hy := hy), if_pos rfl]
  exact K g2 dh1 core sI (fun j => by rw [q90 j, s90 j])
theorem kk_case29 (hy : 5306 ≤ nx) (hc : kk_core b h dh) (hs : kk_sI h) (hb : b + 1600 ≤ 1000000) (L : kk_LW h S N x3) (K : ∀ g d, kk_core (b + 1600) g d → kk_sI g → (∀ j, g (90, 0, 0) j = S j) → mm_Wp 297 (mm_blk 297 82) [zR (90, 0, 0), zR (1, 0, 0), zR (40, 0, 0), zI x3] [] (mm_z g d nx ns) Q) : mm_Wp 297 (mm_blk 297 43) [zR (90, 0, 0), zR (1, 0, 0), zR (40, 0, 0), zI x3] [] (mm_z h dh nx ns) Q := by
  obtain ⟨s90, sN, x30, sr⟩ := L
  have e : ∀ i : Int, 1 ≤ i → i ≤ 6 → mm_w (x3 + i) = x3 + i := fun i i0 i1 => mm_wi (by omega) (by omega)
  rw [r_297_43 (hy := hy)]
  simp only [e 1 (by omega) (by omega), e 2 (by omega) (by omega), e 3 (by omega) (by omega), e 4 (by omega) (by omega), e 5 (by omega) (by omega), e 6 (by omega) (by omega), s90]
  refine ⟨⟨by omega, by omega⟩, ⟨by omega, by omega⟩, ?_⟩
  have cA : kk_cA 30 252 [zI (S (x3 + 1)), zI (S (x3 + 2))] b h dh nx ns kk_SI := kk_cAc hy hb hs (c_30 (hy := hy) (hc := hc) (hb := by omega) (ht := sr _ (by omega) (by omega)) (hn := sr _ (by omega) (by omega)))
  refine mm_Clm ?_ cA
  rintro r h1 ⟨⟨y, er, _⟩, g, dh1, eg, g90, c2⟩
  subst er eg
  rw [mm_pI, r_297_43_12 (hy := hy)]
  simp only [e 1 (by omega) (by omega), e 2 (by omega) (by omega), e 3 (by omega) (by omega), e 4 (by omega) (by omega), e 5 (by omega) (by omega), e 6 (by omega) (by omega), g90, s90]
  refine ⟨⟨by omega, by omega⟩, ⟨by omega, by omega⟩, ?_⟩
  refine mm_Clm ?_ c2
  rintro r2 h2 ⟨e1, g2, e2, core, sI, q90⟩
  subst e1 e2
  rw [mm_pI, r_297_43_24 (hy := hy), if_pos rfl]
  exact K g2 dh1 core sI (fun j => by rw [q90 j, s90 j])
theorem kk_case30 (hy : 5306 ≤ nx) (hc : kk_core b h dh) (hs : kk_sI h) (hb : b + 1600 ≤ 1000000) (L : kk_LW h S N x3) (K : ∀ g d, kk_core (b + 1600) g d → kk_sI g → (∀ j, g (90, 0, 0) j = S j) → mm_Wp 297 (mm_blk 297 82) [zR (90, 0, 0), zR (1, 0, 0), zR (40, 0, 0), zI x3] [] (mm_z g d nx ns) Q) : mm_Wp 297 (mm_blk 297 44) [zR (90, 0, 0), zR (1, 0, 0), zR (40, 0, 0), zI x3] [] (mm_z h dh nx ns) Q := by
  obtain ⟨s90, sN, x30, sr⟩ := L
  have e : ∀ i : Int, 1 ≤ i → i ≤ 6 → mm_w (x3 + i) = x3 + i := fun i i0 i1 => mm_wi (by omega) (by omega)
  rw [r_297_44 (hy := hy)]
  simp only [e 1 (by omega) (by omega), e 2 (by omega) (by omega), e 3 (by omega) (by omega), e 4 (by omega) (by omega), e 5 (by omega) (by omega), e 6 (by omega) (by omega), s90]
  refine ⟨⟨by omega, by omega⟩, ?_⟩
  have cA : kk_cA 31 253 [zI (S (x3 + 1))] b h dh nx ns kk_SI := kk_cAc hy hb hs (c_31 (hy := hy) (hc := hc) (hb := by omega) (ht := sr _ (by omega) (by omega)))
  refine mm_Clm ?_ cA
  rintro r h1 ⟨⟨y, er, _⟩, g, dh1, eg, g90, c2⟩
  subst er eg
  rw [mm_pI, r_297_44_7 (hy := hy)]
  simp only [e 1 (by omega) (by omega), e 2 (by omega) (by omega), e 3 (by omega) (by omega), e 4 (by omega) (by omega), e 5 (by omega) (by omega), e 6 (by omega) (by omega), g90, s90]
  refine ⟨⟨by omega, by omega⟩, ?_⟩
  refine mm_Clm ?_ c2
  rintro r2 h2 ⟨e1, g2, e2, core, sI, q90⟩
  subst e1 e2
  rw [mm_pI, r_297_44_14 (hy := hy), if_pos rfl]
  exact K g2 dh1 core sI (fun j => by rw [q90 j, s90 j])
theorem kk_case31 (hy : 5306 ≤ nx) (hc : kk_core b h dh) (hs : kk_sI h) (hb : b + 1600 ≤ 1000000) (L : kk_LW h S N x3) (K : ∀ g d, kk_core (b + 1600) g d → kk_sI g → (∀ j, g (90, 0, 0) j = S j) → mm_Wp 297 (mm_blk 297 82) [zR (90, 0, 0), zR (1, 0, 0), zR (40, 0, 0), zI x3] [] (mm_z g d nx ns) Q) : mm_Wp 297 (mm_blk 297 45) [zR (90, 0, 0), zR (1, 0, 0), zR (40, 0, 0), zI x3] [] (mm_z h dh nx ns) Q := by
  obtain ⟨s90, sN, x30, sr⟩ := L
  have e : ∀ i : Int, 1 ≤ i → i ≤ 6 → mm_w (x3 + i) = x3 + i := fun i i0 i1 => mm_wi (by omega) (by omega)
  rw [r_297_45 (hy := hy)]
  simp only [e 1 (by omega) (by omega), e 2 (by omega) (by omega), e 3 (by omega) (by omega), e 4 (by omega) (by omega), e 5 (by omega) (by omega), e 6 (by omega) (by omega), s90]
  refine ⟨⟨by omega, by omega⟩, ⟨by omega, by omega⟩, ?_⟩
  by_cases t : S (x3 + 2) = 0
  · rw [if_pos t, r_297_47 (hy := hy)]
    have cA : kk_cA 32 254 [zI (S (x3 + 1)), zI 0] b h dh nx ns kk_SI := kk_cAc hy hb hs (c_32 (hy := hy) (hc := hc) (hb := by omega) (ht := sr _ (by omega) (by omega)) (hn := Or.inl rfl))
    refine mm_Clm ?_ cA
    rintro r h1 ⟨⟨y, er, _⟩, g, dh1, eg, g90, c2⟩
    subst er eg
    rw [mm_pI, r_297_47_1 (hy := hy)]
    simp only [e 1 (by omega) (by omega), e 2 (by omega) (by omega), e 3 (by omega) (by omega), e 4 (by omega) (by omega), e 5 (by omega) (by omega), e 6 (by omega) (by omega), g90, s90]
    refine ⟨⟨by omega, by omega⟩, ⟨by omega, by omega⟩, ?_⟩
    rw [if_pos t, r_297_49 (hy := hy)]
    refine mm_Clm ?_ c2
    rintro r2 h2 ⟨e1, g2, e2, core, sI, q90⟩
    subst e1 e2
    rw [mm_pI, r_297_49_1 (hy := hy), if_pos rfl]
    exact K g2 dh1 core sI (fun j => by rw [q90 j, s90 j])
  · rw [if_neg t, r_297_47 (hy := hy)]
    have cA : kk_cA 32 254 [zI (S (x3 + 1)), zI 1] b h dh nx ns kk_SI := kk_cAc hy hb hs (c_32 (hy := hy) (hc := hc) (hb := by omega) (ht := sr _ (by omega) (by omega)) (hn := Or.inr rfl))
    refine mm_Clm ?_ cA
    rintro r h1 ⟨⟨y, er, _⟩, g, dh1, eg, g90, c2⟩
    subst er eg
    rw [mm_pI, r_297_47_1 (hy := hy)]
    simp only [e 1 (by omega) (by omega), e 2 (by omega) (by omega), e 3 (by omega) (by omega), e 4 (by omega) (by omega), e 5 (by omega) (by omega), e 6 (by omega) (by omega), g90, s90]
    refine ⟨⟨by omega, by omega⟩, ⟨by omega, by omega⟩, ?_⟩
    rw [if_neg t, r_297_49 (hy := hy)]
    refine mm_Clm ?_ c2
    rintro r2 h2 ⟨e1, g2, e2, core, sI, q90⟩
    subst e1 e2
    rw [mm_pI, r_297_49_1 (hy := hy), if_pos rfl]
    exact K g2 dh1 core sI (fun j => by rw [q90 j, s90 j])
theorem kk_case32 (hy : 5306 ≤ nx) (hc : kk_core b h dh) (hs : kk_sI h) (hb : b + 1600 ≤ 1000000) (L : kk_LW h S N x3) (K : ∀ g d, kk_core (b + 1600) g d → kk_sI g → (∀ j, g (90, 0, 0) j = S j) → mm_Wp 297 (mm_blk 297 82) [zR (90, 0, 0), zR (1, 0, 0), zR (40, 0, 0), zI x3] [] (mm_z g d nx ns) Q) : mm_Wp 297 (mm_blk 297 50) [zR (90, 0, 0), zR (1, 0, 0), zR (40, 0, 0), zI x3] [] (mm_z h dh nx ns) Q := by
  obtain ⟨s90, sN, x30, sr⟩ := L
  have e : ∀ i : Int, 1 ≤ i → i ≤ 6 → mm_w (x3 + i) = x3 + i := fun i i0 i1 => mm_wi (by omega) (by omega)
  rw [r_297_50 (hy := hy)]
  simp only [e 1 (by omega) (by omega), e 2 (by omega) (by omega), e 3 (by omega) (by omega), e 4 (by omega) (by omega), e 5 (by omega) (by omega), e 6 (by omega) (by omega), s90]
  refine ⟨⟨by omega, by omega⟩, ⟨by omega, by omega⟩, ?_⟩
  have cA : kk_cA 33 255 [zI (S (x3 + 1)), zI (S (x3 + 2))] b h dh nx ns kk_SI := kk_cAc hy hb hs (c_33 (hy := hy) (hc := hc) (hb := by omega) (ht := sr _ (by omega) (by omega)) (hn := sr _ (by omega) (by omega)))
  refine mm_Clm ?_ cA
  rintro r h1 ⟨⟨y, er, _⟩, g, dh1, eg, g90, c2⟩
  subst er eg
  rw [mm_pI, r_297_50_12 (hy := hy)]
  simp only [e 1 (by omega) (by omega), e 2 (by omega) (by omega), e 3 (by omega) (by omega), e 4 (by omega) (by omega), e 5 (by omega) (by omega), e 6 (by omega) (by omega), g90, s90]
  refine ⟨⟨by omega, by omega⟩, ⟨by omega, by omega⟩, ?_⟩
  refine mm_Clm ?_ c2
  rintro r2 h2 ⟨e1, g2, e2, core, sI, q90⟩
  subst e1 e2
  rw [mm_pI, r_297_50_24 (hy := hy), if_pos rfl]
  exact K g2 dh1 core sI (fun j => by rw [q90 j, s90 j])
theorem kk_case33 (hy : 5306 ≤ nx) (hc : kk_core b h dh) (hs : kk_sI h) (hb : b + 1600 ≤ 1000000) (L : kk_LW h S N x3) (K : ∀ g d, kk_core (b + 1600) g d → kk_sI g → (∀ j, g (90, 0, 0) j = S j) → mm_Wp 297 (mm_blk 297 82) [zR (90, 0, 0), zR (1, 0, 0), zR (40, 0, 0), zI x3] [] (mm_z g d nx ns) Q) : mm_Wp 297 (mm_blk 297 51) [zR (90, 0, 0), zR (1, 0, 0), zR (40, 0, 0), zI x3] [] (mm_z h dh nx ns) Q := by
  obtain ⟨s90, sN, x30, sr⟩ := L
  have e : ∀ i : Int, 1 ≤ i → i ≤ 6 → mm_w (x3 + i) = x3 + i := fun i i0 i1 => mm_wi (by omega) (by omega)
  rw [r_297_51 (hy := hy)]
  simp only [e 1 (by omega) (by omega), e 2 (by omega) (by omega), e 3 (by omega) (by omega), e 4 (by omega) (by omega), e 5 (by omega) (by omega), e 6 (by omega) (by omega), s90]
  refine ⟨⟨by omega, by omega⟩, ⟨by omega, by omega⟩, ?_⟩
  by_cases t : S (x3 + 2) = 0
  · rw [if_pos t, r_297_53 (hy := hy)]
    have cA : kk_cA 34 256 [zI (S (x3 + 1)), zI 0] b h dh nx ns kk_SI := kk_cAc hy hb hs (c_34 (hy := hy) (hc := hc) (hb := by omega) (ht := sr _ (by omega) (by omega)) (hn := Or.inl rfl))
    refine mm_Clm ?_ cA
    rintro r h1 ⟨⟨y, er, _⟩, g, dh1, eg, g90, c2⟩
    subst er eg
    rw [mm_pI, r_297_53_1 (hy := hy)]
    simp only [e 1 (by omega) (by omega), e 2 (by omega) (by omega), e 3 (by omega) (by omega), e 4 (by omega) (by omega), e 5 (by omega) (by omega), e 6 (by omega) (by omega), g90, s90]
    refine ⟨⟨by omega, by omega⟩, ⟨by omega, by omega⟩, ?_⟩
    rw [if_pos t, r_297_55 (hy := hy)]
    refine mm_Clm ?_ c2
    rintro r2 h2 ⟨e1, g2, e2, core, sI, q90⟩
    subst e1 e2
    rw [mm_pI, r_297_55_1 (hy := hy), if_pos rfl]
    exact K g2 dh1 core sI (fun j => by rw [q90 j, s90 j])
  · rw [if_neg t, r_297_53 (hy := hy)]
    have cA : kk_cA 34 256 [zI (S (x3 + 1)), zI 1] b h dh nx ns kk_SI := kk_cAc hy hb hs (c_34 (hy := hy) (hc := hc) (hb := by omega) (ht := sr _ (by omega) (by omega)) (hn := Or.inr rfl))
    refine mm_Clm ?_ cA
    rintro r h1 ⟨⟨y, er, _⟩, g, dh1, eg, g90, c2⟩
    subst er eg
    rw [mm_pI, r_297_53_1 (hy := hy)]
    simp only [e 1 (by omega) (by omega), e 2 (by omega) (by omega), e 3 (by omega) (by omega), e 4 (by omega) (by omega), e 5 (by omega) (by omega), e 6 (by omega) (by omega), g90, s90]
    refine ⟨⟨by omega, by omega⟩, ⟨by omega, by omega⟩, ?_⟩
    rw [if_neg t, r_297_55 (hy := hy)]
    refine mm_Clm ?_ c2
    rintro r2 h2 ⟨e1, g2, e2, core, sI, q90⟩
    subst e1 e2
    rw [mm_pI, r_297_55_1 (hy := hy), if_pos rfl]
    exact K g2 dh1 core sI (fun j => by rw [q90 j, s90 j])
theorem kk_case34 (hy : 5306 ≤ nx) (hc : kk_core b h dh) (hs : kk_sI h) (hb : b + 1600 ≤ 1000000) (L : kk_LW h S N x3) (K : ∀ g d, kk_core (b + 1600) g d → kk_sI g → (∀ j, g (90, 0, 0) j = S j) → mm_Wp 297 (mm_blk 297 82) [zR (90, 0, 0), zR (1, 0, 0), zR (40, 0, 0), zI x3] [] (mm_z g d nx ns) Q) : mm_Wp 297 (mm_blk 297 56) [zR (90, 0, 0), zR (1, 0, 0), zR (40, 0, 0), zI x3] [] (mm_z h dh nx ns) Q := by
  obtain ⟨s90, sN, x30, sr⟩ := L
  have e : ∀ i : Int, 1 ≤ i → i ≤ 6 → mm_w (x3 + i) = x3 + i := fun i i0 i1 => mm_wi (by omega) (by omega)
  rw [r_297_56 (hy := hy)]
  simp only [e 1 (by omega) (by omega), e 2 (by omega) (by omega), e 3 (by omega) (by omega), e 4 (by omega) (by omega), e 5 (by omega) (by omega), e 6 (by omega) (by omega), s90]
  refine ⟨⟨by omega, by omega⟩, ⟨by omega, by omega⟩, ?_⟩
  have cA : kk_cA 35 257 [zI (S (x3 + 1)), zI (S (x3 + 2))] b h dh nx ns kk_SI := kk_cAc hy hb hs (c_35 (hy := hy) (hc := hc) (hb := by omega) (ht := sr _ (by omega) (by omega)) (hn := sr _ (by omega) (by omega)))
  refine mm_Clm ?_ cA
  rintro r h1 ⟨⟨y, er, _⟩, g, dh1, eg, g90, c2⟩
  subst er eg
  rw [mm_pI, r_297_56_12 (hy := hy)]
  simp only [e 1 (by omega) (by omega), e 2 (by omega) (by omega), e 3 (by omega) (by omega), e 4 (by omega) (by omega), e 5 (by omega) (by omega), e 6 (by omega) (by omega), g90, s90]
  refine ⟨⟨by omega, by omega⟩, ⟨by omega, by omega⟩, ?_⟩
  refine mm_Clm ?_ c2
  rintro r2 h2 ⟨e1, g2, e2, core, sI, q90⟩
  subst e1 e2
  rw [mm_pI, r_297_56_24 (hy := hy), if_pos rfl]
  exact K g2 dh1 core sI (fun j => by rw [q90 j, s90 j])
theorem kk_case35 (hy : 5306 ≤ nx) (hc : kk_core b h dh) (hs : kk_sI h) (hb : b + 1600 ≤ 1000000) (L : kk_LW h S N x3) (K : ∀ g d, kk_core (b + 1600) g d → kk_sI g → (∀ j, g (90, 0, 0) j = S j) → mm_Wp 297 (mm_blk 297 82) [zR (90, 0, 0), zR (1, 0, 0), zR (40, 0, 0), zI x3] [] (mm_z g d nx ns) Q) : mm_Wp 297 (mm_blk 297 57) [zR (90, 0, 0), zR (1, 0, 0), zR (40, 0, 0), zI x3] [] (mm_z h dh nx ns) Q := by
  obtain ⟨s90, sN, x30, sr⟩ := L
  have e : ∀ i : Int, 1 ≤ i → i ≤ 6 → mm_w (x3 + i) = x3 + i := fun i i0 i1 => mm_wi (by omega) (by omega)
  rw [r_297_57 (hy := hy)]
  simp only [e 1 (by omega) (by omega), e 2 (by omega) (by omega), e 3 (by omega) (by omega), e 4 (by omega) (by omega), e 5 (by omega) (by omega), e 6 (by omega) (by omega), s90]
  refine ⟨⟨by omega, by omega⟩, ⟨by omega, by omega⟩, ⟨by omega, by omega⟩, ?_⟩
  have cA : kk_cA 36 259 [zI (S (x3 + 1)), zI (S (x3 + 2)), zI (S (x3 + 3))] b h dh nx ns kk_SI := kk_cAc hy hb hs (c_36 (hy := hy) (hc := hc) (hb := by omega) (ht := sr _ (by omega) (by omega)) (hn := sr _ (by omega) (by omega)) (hk := sr _ (by omega) (by omega)))
  refine mm_Clm ?_ cA
  rintro r h1 ⟨⟨y, er, _⟩, g, dh1, eg, g90, c2⟩
  subst er eg
  rw [mm_pI, r_297_57_17 (hy := hy)]
  simp only [e 1 (by omega) (by omega), e 2 (by omega) (by omega), e 3 (by omega) (by omega), e 4 (by omega) (by omega), e 5 (by omega) (by omega), e 6 (by omega) (by omega), g90, s90]
  refine ⟨⟨by omega, by omega⟩, ⟨by omega, by omega⟩, ⟨by omega, by omega⟩, ?_⟩
  refine mm_Clm ?_ c2
  rintro r2 h2 ⟨e1, g2, e2, core, sI, q90⟩
  subst e1 e2
  rw [mm_pI, r_297_57_34 (hy := hy), if_pos rfl]
  exact K g2 dh1 core sI (fun j => by rw [q90 j, s90 j])
theorem kk_case36 (hy : 5306 ≤ nx) (hc : kk_core b h dh) (hs : kk_sI h) (hb : b + 1600 ≤ 1000000) (L : kk_LW h S N x3) (K : ∀ g d, kk_core (b + 1600) g d → kk_sI g → (∀ j, g (90, 0, 0) j = S j) → mm_Wp 297 (mm_blk 297 82) [zR (90, 0, 0), zR (1, 0, 0), zR (40, 0, 0), zI x3] [] (mm_z g d nx ns) Q) : mm_Wp 297 (mm_blk 297 58) [zR (90, 0, 0), zR (1, 0, 0), zR (40, 0, 0), zI x3] [] (mm_z h dh nx ns) Q := by
  obtain ⟨s90, sN, x30, sr⟩ := L
  have e : ∀ i : Int, 1 ≤ i → i ≤ 6 → mm_w (x3 + i) = x3 + i := fun i i0 i1 => mm_wi (by omega) (by omega)
  rw [r_297_58 (hy := hy)]
  simp only [e 1 (by omega) (by omega), e 2 (by omega) (by omega), e 3 (by omega) (by omega), e 4 (by omega) (by omega), e 5 (by omega) (by omega), e 6 (by omega) (by omega), s90]
  refine ⟨⟨by omega, by omega⟩, ⟨by omega, by omega⟩, ?_⟩
  have cA : kk_cA 37 260 [zI (S (x3 + 1)), zI (S (x3 + 2))] b h dh nx ns kk_SI := kk_cAc hy hb hs (c_37 (hy := hy) (hc := hc) (hb := by omega) (ht := sr _ (by omega) (by omega)) (hn := sr _ (by omega) (by omega)))
  refine mm_Clm ?_ cA
  rintro r h1 ⟨⟨y, er, _⟩, g, dh1, eg, g90, c2⟩
  subst er eg
  rw [mm_pI, r_297_58_12 (hy := hy)]
  simp only [e 1 (by omega) (by omega), e 2 (by omega) (by omega), e 3 (by omega) (by omega), e 4 (by omega) (by omega), e 5 (by omega) (by omega), e 6 (by omega) (by omega), g90, s90]
  refine ⟨⟨by omega, by omega⟩, ⟨by omega, by omega⟩, ?_⟩
  refine mm_Clm ?_ c2
  rintro r2 h2 ⟨e1, g2, e2, core, sI, q90⟩
  subst e1 e2
  rw [mm_pI, r_297_58_24 (hy := hy), if_pos rfl]
  exact K g2 dh1 core sI (fun j => by rw [q90 j, s90 j])
theorem kk_case37 (hy : 5306 ≤ nx) (hc : kk_core b h dh) (hs : kk_sI h) (hb : b + 1600 ≤ 1000000) (L : kk_LW h S N x3) (K : ∀ g d, kk_core (b + 1600) g d → kk_sI g → (∀ j, g (90, 0, 0) j = S j) → mm_Wp 297 (mm_blk 297 82) [zR (90, 0, 0), zR (1, 0, 0), zR (40, 0, 0), zI x3] [] (mm_z g d nx ns) Q) : mm_Wp 297 (mm_blk 297 59) [zR (90, 0, 0), zR (1, 0, 0), zR (40, 0, 0), zI x3] [] (mm_z h dh nx ns) Q := by
  obtain ⟨s90, sN, x30, sr⟩ := L
  have e : ∀ i : Int, 1 ≤ i → i ≤ 6 → mm_w (x3 + i) = x3 + i := fun i i0 i1 => mm_wi (by omega) (by omega)
  rw [r_297_59 (hy := hy)]
  simp only [e 1 (by omega) (by omega), e 2 (by omega) (by omega), e 3 (by omega) (by omega), e 4 (by omega) (by omega), e 5 (by omega) (by omega), e 6 (by omega) (by omega), s90]
  refine ⟨⟨by omega, by omega⟩, ?_⟩
  have cA : kk_cA 38 264 [zI (S (x3 + 1))] b h dh nx ns kk_SI := kk_cAc hy hb hs (c_38 (hy := hy) (hc := hc) (hb := by omega) (ht := sr _ (by omega) (by omega)))
  refine mm_Clm ?_ cA
  rintro r h1 ⟨⟨y, er, _⟩, g, dh1, eg, g90, c2⟩
  subst er eg
  rw [mm_pI, r_297_59_7 (hy := hy)]
  simp only [e 1 (by omega) (by omega), e 2 (by omega) (by omega), e 3 (by omega) (by omega), e 4 (by omega) (by omega), e 5 (by omega) (by omega), e 6 (by omega) (by omega), g90, s90]
  refine ⟨⟨by omega, by omega⟩, ?_⟩
  refine mm_Clm ?_ c2
  rintro r2 h2 ⟨e1, g2, e2, core, sI, q90⟩
  subst e1 e2
  rw [mm_pI, r_297_59_14 (hy := hy), if_pos rfl]
  exact K g2 dh1 core sI (fun j => by rw [q90 j, s90 j])
theorem kk_case38 (hy : 5306 ≤ nx) (hc : kk_core b h dh) (hs : kk_sI h) (hb : b + 1600 ≤ 1000000) (L : kk_LW h S N x3) (K : ∀ g d, kk_core (b + 1600) g d → kk_sI g → (∀ j, g (90, 0, 0) j = S j) → mm_Wp 297 (mm_blk 297 82) [zR (90, 0, 0), zR (1, 0, 0), zR (40, 0, 0), zI x3] [] (mm_z g d nx ns) Q) : mm_Wp 297 (mm_blk 297 60) [zR (90, 0, 0), zR (1, 0, 0), zR (40, 0, 0), zI x3] [] (mm_z h dh nx ns) Q := by
  obtain ⟨s90, sN, x30, sr⟩ := L
  have e : ∀ i : Int, 1 ≤ i → i ≤ 6 → mm_w (x3 + i) = x3 + i := fun i i0 i1 => mm_wi (by omega) (by omega)
  rw [r_297_60 (hy := hy)]
  have cA : kk_cA 39 265 [] b h dh nx ns kk_SI := kk_cAc hy hb hs (c_39 (hy := hy) (hc := hc) (hb := by omega) )
  refine mm_Clm ?_ cA
  rintro r h1 ⟨⟨y, er, _⟩, g, dh1, eg, g90, c2⟩
  subst er eg
  rw [mm_pI, r_297_60_2 (hy := hy)]
  refine mm_Clm ?_ c2
  rintro r2 h2 ⟨e1, g2, e2, core, sI, q90⟩
  subst e1 e2
  rw [mm_pI, r_297_60_4 (hy := hy), if_pos rfl]
  exact K g2 dh1 core sI (fun j => by rw [q90 j, s90 j])
theorem kk_case39 (hy : 5306 ≤ nx) (hc : kk_core b h dh) (hs : kk_sI h) (hb : b + 1600 ≤ 1000000) (L : kk_LW h S N x3) (K : ∀ g d, kk_core (b + 1600) g d → kk_sI g → (∀ j, g (90, 0, 0) j = S j) → mm_Wp 297 (mm_blk 297 82) [zR (90, 0, 0), zR (1, 0, 0), zR (40, 0, 0), zI x3] [] (mm_z g d nx ns) Q) : mm_Wp 297 (mm_blk 297 61) [zR (90, 0, 0), zR (1, 0, 0), zR (40, 0, 0), zI x3] [] (mm_z h dh nx ns) Q := by
  obtain ⟨s90, sN, x30, sr⟩ := L
  have e : ∀ i : Int, 1 ≤ i → i ≤ 6 → mm_w (x3 + i) = x3 + i := fun i i0 i1 => mm_wi (by omega) (by omega)
  rw [r_297_61 (hy := hy)]
  have cA : kk_cA 40 266 [] b h dh nx ns kk_SI := kk_cAc hy hb hs (c_40 (hy := hy) (hc := hc) (hb := by omega) )
  refine mm_Clm ?_ cA
  rintro r h1 ⟨⟨y, er, _⟩, g, dh1, eg, g90, c2⟩
  subst er eg
  rw [mm_pI, r_297_61_2 (hy := hy)]
  refine mm_Clm ?_ c2
  rintro r2 h2 ⟨e1, g2, e2, core, sI, q90⟩
  subst e1 e2
  rw [mm_pI, r_297_61_4 (hy := hy), if_pos rfl]
  exact K g2 dh1 core sI (fun j => by rw [q90 j, s90 j])
theorem kk_case40 (hy : 5306 ≤ nx) (hc : kk_core b h dh) (hs : kk_sI h) (hb : b + 1600 ≤ 1000000) (L : kk_LW h S N x3) (K : ∀ g d, kk_core (b + 1600) g d → kk_sI g → (∀ j, g (90, 0, 0) j = S j) → mm_Wp 297 (mm_blk 297 82) [zR (90, 0, 0), zR (1, 0, 0), zR (40, 0, 0), zI x3] [] (mm_z g d nx ns) Q) : mm_Wp 297 (mm_blk 297 62) [zR (90, 0, 0), zR (1, 0, 0), zR (40, 0, 0), zI x3] [] (mm_z h dh nx ns) Q := by
  obtain ⟨s90, sN, x30, sr⟩ := L
  have e : ∀ i : Int, 1 ≤ i → i ≤ 6 → mm_w (x3 + i) = x3 + i := fun i i0 i1 => mm_wi (by omega) (by omega)
  rw [r_297_62 (hy := hy)]
  simp only [e 1 (by omega) (by omega), e 2 (by omega) (by omega), e 3 (by omega) (by omega), e 4 (by omega) (by omega), e 5 (by omega) (by omega), e 6 (by omega) (by omega), s90]
  refine ⟨⟨by omega, by omega⟩, ?_⟩
  have cA : kk_cA 41 267 [zI (S (x3 + 1))] b h dh nx ns kk_SI := kk_cAc hy hb hs (c_41 (hy := hy) (hc := hc) (hb := by omega) (ht := sr _ (by omega) (by omega)))
  refine mm_Clm ?_ cA
  rintro r h1 ⟨⟨y, er, _⟩, g, dh1, eg, g90, c2⟩
  subst er eg
  rw [mm_pI, r_297_62_7 (hy := hy)]
  simp only [e 1 (by omega) (by omega), e 2 (by omega) (by omega), e 3 (by omega) (by omega), e 4 (by omega) (by omega), e 5 (by omega) (by omega), e 6 (by omega) (by omega), g90, s90]
  refine ⟨⟨by omega, by omega⟩, ?_⟩
  refine mm_Clm ?_ c2
  rintro r2 h2 ⟨e1, g2, e2, core, sI, q90⟩
  subst e1 e2
  rw [mm_pI, r_297_62_14 (hy := hy), if_pos rfl]
  exact K g2 dh1 core sI (fun j => by rw [q90 j, s90 j])
theorem kk_case41 (hy : 5306 ≤ nx) (hc : kk_core b h dh) (hs : kk_sI h) (hb : b + 1600 ≤ 1000000) (L : kk_LW h S N x3) (K : ∀ g d, kk_core (b + 1600) g d → kk_sI g → (∀ j, g (90, 0, 0) j = S j) → mm_Wp 297 (mm_blk 297 82) [zR (90, 0, 0), zR (1, 0, 0), zR (40, 0, 0), zI x3] [] (mm_z g d nx ns) Q) : mm_Wp 297 (mm_blk 297 63) [zR (90, 0, 0), zR (1, 0, 0), zR (40, 0, 0), zI x3] [] (mm_z h dh nx ns) Q := by
  obtain ⟨s90, sN, x30, sr⟩ := L
  have e : ∀ i : Int, 1 ≤ i → i ≤ 6 → mm_w (x3 + i) = x3 + i := fun i i0 i1 => mm_wi (by omega) (by omega)
  rw [r_297_63 (hy := hy)]
  simp only [e 1 (by omega) (by omega), e 2 (by omega) (by omega), e 3 (by omega) (by omega), e 4 (by omega) (by omega), e 5 (by omega) (by omega), e 6 (by omega) (by omega), s90]
  refine ⟨⟨by omega, by omega⟩, ⟨by omega, by omega⟩, ⟨by omega, by omega⟩, ?_⟩
  have cA : kk_cA 42 270 [zI (S (x3 + 1)), zI (S (x3 + 2)), zI (S (x3 + 3))] b h dh nx ns kk_SI := kk_cAc hy hb hs (c_42 (hy := hy) (hc := hc) (hb := by omega) (ht := sr _ (by omega) (by omega)) (hn := sr _ (by omega) (by omega)) (hk := sr _ (by omega) (by omega)))
  refine mm_Clm ?_ cA
  rintro r h1 ⟨⟨y, er, _⟩, g, dh1, eg, g90, c2⟩
  subst er eg
  rw [mm_pI, r_297_63_17 (hy := hy)]
  simp only [e 1 (by omega) (by omega), e 2 (by omega) (by omega), e 3 (by omega) (by omega), e 4 (by omega) (by omega), e 5 (by omega) (by omega), e 6 (by omega) (by omega), g90, s90]
  refine ⟨⟨by omega, by omega⟩, ⟨by omega, by omega⟩, ⟨by omega, by omega⟩, ?_⟩
  refine mm_Clm ?_ c2
  rintro r2 h2 ⟨e1, g2, e2, core, sI, q90⟩
  subst e1 e2
  rw [mm_pI, r_297_63_34 (hy := hy), if_pos rfl]
  exact K g2 dh1 core sI (fun j => by rw [q90 j, s90 j])
theorem kk_case42 (hy : 5306 ≤ nx) (hc : kk_core b h dh) (hs : kk_sI h) (hb : b + 1600 ≤ 1000000) (L : kk_LW h S N x3) (K : ∀ g d, kk_core (b + 1600) g d → kk_sI g → (∀ j, g (90, 0, 0) j = S j) → mm_Wp 297 (mm_blk 297 82) [zR (90, 0, 0), zR (1, 0, 0), zR (40, 0, 0), zI x3] [] (mm_z g d nx ns) Q) : mm_Wp 297 (mm_blk 297 64) [zR (90, 0, 0), zR (1, 0, 0), zR (40, 0, 0), zI x3] [] (mm_z h dh nx ns) Q := by
  obtain ⟨s90, sN, x30, sr⟩ := L
  have e : ∀ i : Int, 1 ≤ i → i ≤ 6 → mm_w (x3 + i) = x3 + i := fun i i0 i1 => mm_wi (by omega) (by omega)
  rw [r_297_64 (hy := hy)]
  simp only [e 1 (by omega) (by omega), e 2 (by omega) (by omega), e 3 (by omega) (by omega), e 4 (by omega) (by omega), e 5 (by omega) (by omega), e 6 (by omega) (by omega), s90]
  refine ⟨⟨by omega, by omega⟩, ?_⟩
  have cA : kk_cA 43 271 [zI (S (x3 + 1))] b h dh nx ns kk_SI := kk_cAc hy hb hs (c_43 (hy := hy) (hc := hc) (hb := by omega) (ht := sr _ (by omega) (by omega)))
  refine mm_Clm ?_ cA
  rintro r h1 ⟨⟨y, er, _⟩, g, dh1, eg, g90, c2⟩
  subst er eg
  rw [mm_pI, r_297_64_7 (hy := hy)]
  simp only [e 1 (by omega) (by omega), e 2 (by omega) (by omega), e 3 (by omega) (by omega), e 4 (by omega) (by omega), e 5 (by omega) (by omega), e 6 (by omega) (by omega), g90, s90]
  refine ⟨⟨by omega, by omega⟩, ?_⟩
  refine mm_Clm ?_ c2
  rintro r2 h2 ⟨e1, g2, e2, core, sI, q90⟩
  subst e1 e2
  rw [mm_pI, r_297_64_14 (hy := hy), if_pos rfl]
  exact K g2 dh1 core sI (fun j => by rw [q90 j, s90 j])
theorem kk_case43 (hy : 5306 ≤ nx) (hc : kk_core b h dh) (hs : kk_sI h) (hb : b + 1600 ≤ 1000000) (L : kk_LW h S N x3) (K : ∀ g d, kk_core (b + 1600) g d → kk_sI g → (∀ j, g (90, 0, 0) j = S j) → mm_Wp 297 (mm_blk 297 82) [zR (90, 0, 0), zR (1, 0, 0), zR (40, 0, 0), zI x3] [] (mm_z g d nx ns) Q) : mm_Wp 297 (mm_blk 297 65) [zR (90, 0, 0), zR (1, 0, 0), zR (40, 0, 0), zI x3] [] (mm_z h dh nx ns) Q := by
  obtain ⟨s90, sN, x30, sr⟩ := L
  have e : ∀ i : Int, 1 ≤ i → i ≤ 6 → mm_w (x3 + i) = x3 + i := fun i i0 i1 => mm_wi (by omega) (by omega)
  rw [r_297_65 (hy := hy)]
  simp only [e 1 (by omega) (by omega), e 2 (by omega) (by omega), e 3 (by omega) (by omega), e 4 (by omega) (by omega), e 5 (by omega) (by omega), e 6 (by omega) (by omega), s90]
  refine ⟨⟨by omega, by omega⟩, ⟨by omega, by omega⟩, ?_⟩
  by_cases t : S (x3 + 2) = 0
  · rw [if_pos t, r_297_67 (hy := hy)]
    have cA : kk_cA 44 272 [zI (S (x3 + 1)), zI 0] b h dh nx ns kk_SI := kk_cAc hy hb hs (c_44 (hy := hy) (hc := hc) (hb := by omega) (ht := sr _ (by omega) (by omega)) (hn := Or.inl rfl))
    refine mm_Clm ?_ cA
    rintro r h1 ⟨⟨y, er, _⟩, g, dh1, eg, g90, c2⟩
    subst er eg
    rw [mm_pI, r_297_67_1 (hy := hy)]
    simp only [e 1 (by omega) (by omega), e 2 (by omega) (by omega), e 3 (by omega) (by omega), e 4 (by omega) (by omega), e 5 (by omega) (by omega), e 6 (by omega) (by omega), g90, s90]
    refine ⟨⟨by omega, by omega⟩, ⟨by omega, by omega⟩, ?_⟩
    rw [if_pos t, r_297_69 (hy := hy)]
    refine mm_Clm ?_ c2
    rintro r2 h2 ⟨e1, g2, e2, core, sI, q90⟩
    subst e1 e2
    rw [mm_pI, r_297_69_1 (hy := hy), if_pos rfl]
    exact K g2 dh1 core sI (fun j => by rw [q90 j, s90 j])
  · rw [if_neg t, r_297_67 (hy := hy)]
    have cA : kk_cA 44 272 [zI (S (x3 + 1)), zI 1] b h dh nx ns kk_SI := kk_cAc hy hb hs (c_44 (hy := hy) (hc := hc) (hb := by omega) (ht := sr _ (by omega) (by omega)) (hn := Or.inr rfl))
    refine mm_Clm ?_ cA
    rintro r h1 ⟨⟨y, er, _⟩, g, dh1, eg, g90, c2⟩
    subst er eg
    rw [mm_pI, r_297_67_1 (hy := hy)]
    simp only [e 1 (by omega) (by omega), e 2 (by omega) (by omega), e 3 (by omega) (by omega), e 4 (by omega) (by omega), e 5 (by omega) (by omega), e 6 (by omega) (by omega), g90, s90]
    refine ⟨⟨by omega, by omega⟩, ⟨by omega, by omega⟩, ?_⟩
    rw [if_neg t, r_297_69 (hy := hy)]
    refine mm_Clm ?_ c2
    rintro r2 h2 ⟨e1, g2, e2, core, sI, q90⟩
    subst e1 e2
    rw [mm_pI, r_297_69_1 (hy := hy), if_pos rfl]
    exact K g2 dh1 core sI (fun j => by rw [q90 j, s90 j])
theorem kk_case44 (hy : 5306 ≤ nx) (hc : kk_core b h dh) (hs : kk_sI h) (hb : b + 1600 ≤ 1000000) (L : kk_LW h S N x3) (K : ∀ g d, kk_core (b + 1600) g d → kk_sI g → (∀ j, g (90, 0, 0) j = S j) → mm_Wp 297 (mm_blk 297 82) [zR (90, 0, 0), zR (1, 0, 0), zR (40, 0, 0), zI x3] [] (mm_z g d nx ns) Q) : mm_Wp 297 (mm_blk 297 70) [zR (90, 0, 0), zR (1, 0, 0), zR (40, 0, 0), zI x3] [] (mm_z h dh nx ns) Q := by
  obtain ⟨s90, sN, x30, sr⟩ := L
  have e : ∀ i : Int, 1 ≤ i → i ≤ 6 → mm_w (x3 + i) = x3 + i := fun i i0 i1 => mm_wi (by omega) (by omega)
  rw [r_297_70 (hy := hy)]
  simp only [e 1 (by omega) (by omega), e 2 (by omega) (by omega), e 3 (by omega) (by omega), e 4 (by omega) (by omega), e 5 (by omega) (by omega), e 6 (by omega) (by omega), s90]
  refine ⟨⟨by omega, by omega⟩, ?_⟩
  by_cases t : S (x3 + 1) = 0
  · rw [if_pos t, r_297_72 (hy := hy)]
    have cA : kk_cA 45 273 [zI 0] b h dh nx ns kk_SI := kk_cAc hy hb hs (c_45 (hy := hy) (hc := hc) (hb := by omega) (ht := Or.inl rfl))
    refine mm_Clm ?_ cA
    rintro r h1 ⟨⟨y, er, _⟩, g, dh1, eg, g90, c2⟩
    subst er eg
    rw [mm_pI, r_297_72_1 (hy := hy)]
    simp only [e 1 (by omega) (by omega), e 2 (by omega) (by omega), e 3 (by omega) (by omega), e 4 (by omega) (by omega), e 5 (by omega) (by omega), e 6 (by omega) (by omega), g90, s90]
    refine ⟨⟨by omega, by omega⟩, ?_⟩
    rw [if_pos t, r_297_74 (hy := hy)]
    refine mm_Clm ?_ c2
    rintro r2 h2 ⟨e1, g2, e2, core, sI, q90⟩
    subst e1 e2
    rw [mm_pI, r_297_74_1 (hy := hy), if_pos rfl]
    exact K g2 dh1 core sI (fun j => by rw [q90 j, s90 j])
  · rw [if_neg t, r_297_72 (hy := hy)]
    have cA : kk_cA 45 273 [zI 1] b h dh nx ns kk_SI := kk_cAc hy hb hs (c_45 (hy := hy) (hc := hc) (hb := by omega) (ht := Or.inr rfl))
    refine mm_Clm ?_ cA
    rintro r h1 ⟨⟨y, er, _⟩, g, dh1, eg, g90, c2⟩
    subst er eg
    rw [mm_pI, r_297_72_1 (hy := hy)]
    simp only [e 1 (by omega) (by omega), e 2 (by omega) (by omega), e 3 (by omega) (by omega), e 4 (by omega) (by omega), e 5 (by omega) (by omega), e 6 (by omega) (by omega), g90, s90]
    refine ⟨⟨by omega, by omega⟩, ?_⟩
    rw [if_neg t, r_297_74 (hy := hy)]
    refine mm_Clm ?_ c2
    rintro r2 h2 ⟨e1, g2, e2, core, sI, q90⟩
    subst e1 e2
    rw [mm_pI, r_297_74_1 (hy := hy), if_pos rfl]
    exact K g2 dh1 core sI (fun j => by rw [q90 j, s90 j])
theorem kk_case45 (hy : 5306 ≤ nx) (hc : kk_core b h dh) (hs : kk_sI h) (hb : b + 1600 ≤ 1000000) (L : kk_LW h S N x3) (K : ∀ g d, kk_core (b + 1600) g d → kk_sI g → (∀ j, g (90, 0, 0) j = S j) → mm_Wp 297 (mm_blk 297 82) [zR (90, 0, 0), zR (1, 0, 0), zR (40, 0, 0), zI x3] [] (mm_z g d nx ns) Q) : mm_Wp 297 (mm_blk 297 75) [zR (90, 0, 0), zR (1, 0, 0), zR (40, 0, 0), zI x3] [] (mm_z h dh nx ns) Q := by
  obtain ⟨s90, sN, x30, sr⟩ := L
  have e : ∀ i : Int, 1 ≤ i → i ≤ 6 → mm_w (x3 + i) = x3 + i := fun i i0 i1 => mm_wi (by omega) (by omega)
  rw [r_297_75 (hy := hy)]
  simp only [e 1 (by omega) (by omega), e 2 (by omega) (by omega), e 3 (by omega) (by omega), e 4 (by omega) (by omega), e 5 (by omega) (by omega), e 6 (by omega) (by omega), s90]
  refine ⟨⟨by omega, by omega⟩, ?_⟩
  have cA : kk_cA 46 274 [zI (S (x3 + 1))] b h dh nx ns kk_SI := kk_cAc hy hb hs (c_46 (hy := hy) (hc := hc) (hb := by omega) (ht := sr _ (by omega) (by omega)))
  refine mm_Clm ?_ cA
  rintro r h1 ⟨⟨y, er, _⟩, g, dh1, eg, g90, c2⟩
  subst er eg
  rw [mm_pI, r_297_75_7 (hy := hy)]
  simp only [e 1 (by omega) (by omega), e 2 (by omega) (by omega), e 3 (by omega) (by omega), e 4 (by omega) (by omega), e 5 (by omega) (by omega), e 6 (by omega) (by omega), g90, s90]
  refine ⟨⟨by omega, by omega⟩, ?_⟩
  refine mm_Clm ?_ c2
  rintro r2 h2 ⟨e1, g2, e2, core, sI, q90⟩
  subst e1 e2
  rw [mm_pI, r_297_75_14 (hy := hy), if_pos rfl]
  exact K g2 dh1 core sI (fun j => by rw [q90 j, s90 j])
theorem kk_case46 (hy : 5306 ≤ nx) (hc : kk_core b h dh) (hs : kk_sI h) (hb : b + 1600 ≤ 1000000) (L : kk_LW h S N x3) (K : ∀ g d, kk_core (b + 1600) g d → kk_sI g → (∀ j, g (90, 0, 0) j = S j) → mm_Wp 297 (mm_blk 297 82) [zR (90, 0, 0), zR (1, 0, 0), zR (40, 0, 0), zI x3] [] (mm_z g d nx ns) Q) : mm_Wp 297 (mm_blk 297 76) [zR (90, 0, 0), zR (1, 0, 0), zR (40, 0, 0), zI x3] [] (mm_z h dh nx ns) Q := by
  obtain ⟨s90, sN, x30, sr⟩ := L
  have e : ∀ i : Int, 1 ≤ i → i ≤ 6 → mm_w (x3 + i) = x3 + i := fun i i0 i1 => mm_wi (by omega) (by omega)
  rw [r_297_76 (hy := hy)]
  simp only [e 1 (by omega) (by omega), e 2 (by omega) (by omega), e 3 (by omega) (by omega), e 4 (by omega) (by omega), e 5 (by omega) (by omega), e 6 (by omega) (by omega), s90]
  refine ⟨⟨by omega, by omega⟩, ⟨by omega, by omega⟩, ⟨by omega, by omega⟩, ⟨by omega, by omega⟩, ⟨by omega, by omega⟩, ?_⟩
  have cA : kk_cA 47 276 [zI (S (x3 + 1)), zI (S (x3 + 2)), zI (S (x3 + 3)), zI (S (x3 + 4)), zI (S (x3 + 5))] b h dh nx ns kk_SI := kk_cAs hy hb (by omega) (c_47 (hy := hy) (hc := hc) (hs := hs) (hb := by omega))
  refine mm_Clm ?_ cA
  rintro r h1 ⟨⟨y, er, _⟩, g, dh1, eg, g90, c2⟩
  subst er eg
  rw [mm_pI, r_297_76_27 (hy := hy)]
  simp only [e 1 (by omega) (by omega), e 2 (by omega) (by omega), e 3 (by omega) (by omega), e 4 (by omega) (by omega), e 5 (by omega) (by omega), e 6 (by omega) (by omega), g90, s90]
  refine ⟨⟨by omega, by omega⟩, ⟨by omega, by omega⟩, ⟨by omega, by omega⟩, ⟨by omega, by omega⟩, ⟨by omega, by omega⟩, ?_⟩
  refine mm_Clm ?_ c2
  rintro r2 h2 ⟨e1, g2, e2, core, sI, q90⟩
  subst e1 e2
  rw [mm_pI, r_297_76_54 (hy := hy), if_pos rfl]
  exact K g2 dh1 core sI (fun j => by rw [q90 j, s90 j])
theorem kk_case47 (hy : 5306 ≤ nx) (hc : kk_core b h dh) (hs : kk_sI h) (hb : b + 1600 ≤ 1000000) (L : kk_LW h S N x3) (K : ∀ g d, kk_core (b + 1600) g d → kk_sI g → (∀ j, g (90, 0, 0) j = S j) → mm_Wp 297 (mm_blk 297 82) [zR (90, 0, 0), zR (1, 0, 0), zR (40, 0, 0), zI x3] [] (mm_z g d nx ns) Q) : mm_Wp 297 (mm_blk 297 77) [zR (90, 0, 0), zR (1, 0, 0), zR (40, 0, 0), zI x3] [] (mm_z h dh nx ns) Q := by
  obtain ⟨s90, sN, x30, sr⟩ := L
  have e : ∀ i : Int, 1 ≤ i → i ≤ 6 → mm_w (x3 + i) = x3 + i := fun i i0 i1 => mm_wi (by omega) (by omega)
  rw [r_297_77 (hy := hy)]
  simp only [e 1 (by omega) (by omega), e 2 (by omega) (by omega), e 3 (by omega) (by omega), e 4 (by omega) (by omega), e 5 (by omega) (by omega), e 6 (by omega) (by omega), s90]
  refine ⟨⟨by omega, by omega⟩, ?_⟩
  have cA : kk_cA 48 277 [zI (S (x3 + 1))] b h dh nx ns kk_SI := kk_cAs hy hb (by omega) (c_48 (hy := hy) (hc := hc) (hs := hs) (hb := by omega) (ht := sr _ (by omega) (by omega)))
  refine mm_Clm ?_ cA
  rintro r h1 ⟨⟨y, er, _⟩, g, dh1, eg, g90, c2⟩
  subst er eg
  rw [mm_pI, r_297_77_7 (hy := hy)]
  simp only [e 1 (by omega) (by omega), e 2 (by omega) (by omega), e 3 (by omega) (by omega), e 4 (by omega) (by omega), e 5 (by omega) (by omega), e 6 (by omega) (by omega), g90, s90]
  refine ⟨⟨by omega, by omega⟩, ?_⟩
  refine mm_Clm ?_ c2
  rintro r2 h2 ⟨e1, g2, e2, core, sI, q90⟩
  subst e1 e2
  rw [mm_pI, r_297_77_14 (hy := hy), if_pos rfl]
  exact K g2 dh1 core sI (fun j => by rw [q90 j, s90 j])
theorem kk_case48 (hy : 5306 ≤ nx) (hc : kk_core b h dh) (hs : kk_sI h) (hb : b + 1600 ≤ 1000000) (L : kk_LW h S N x3) (K : ∀ g d, kk_core (b + 1600) g d → kk_sI g → (∀ j, g (90, 0, 0) j = S j) → mm_Wp 297 (mm_blk 297 82) [zR (90, 0, 0), zR (1, 0, 0), zR (40, 0, 0), zI x3] [] (mm_z g d nx ns) Q) : mm_Wp 297 (mm_blk 297 78) [zR (90, 0, 0), zR (1, 0, 0), zR (40, 0, 0), zI x3] [] (mm_z h dh nx ns) Q := by
  obtain ⟨s90, sN, x30, sr⟩ := L
  have e : ∀ i : Int, 1 ≤ i → i ≤ 6 → mm_w (x3 + i) = x3 + i := fun i i0 i1 => mm_wi (by omega) (by omega)
  rw [r_297_78 (hy := hy)]
  have cA : kk_cA 49 293 [] b h dh nx ns kk_SI := kk_cAs hy hb (by omega) (c_49 (hy := hy) (hc := hc) (hs := hs) (hb := by omega) )
  refine mm_Clm ?_ cA
  rintro r h1 ⟨⟨y, er, _⟩, g, dh1, eg, g90, c2⟩
  subst er eg
  rw [mm_pI, r_297_78_2 (hy := hy)]
  refine mm_Clm ?_ c2
  rintro r2 h2 ⟨e1, g2, e2, core, sI, q90⟩
  subst e1 e2
  rw [mm_pI, r_297_78_4 (hy := hy), if_pos rfl]
  exact K g2 dh1 core sI (fun j => by rw [q90 j, s90 j])
theorem kk_case49 (hy : 5306 ≤ nx) (hc : kk_core b h dh) (hs : kk_sI h) (hb : b + 1600 ≤ 1000000) (L : kk_LW h S N x3) (K : ∀ g d, kk_core (b + 1600) g d → kk_sI g → (∀ j, g (90, 0, 0) j = S j) → mm_Wp 297 (mm_blk 297 82) [zR (90, 0, 0), zR (1, 0, 0), zR (40, 0, 0), zI x3] [] (mm_z g d nx ns) Q) : mm_Wp 297 (mm_blk 297 79) [zR (90, 0, 0), zR (1, 0, 0), zR (40, 0, 0), zI x3] [] (mm_z h dh nx ns) Q := by
  obtain ⟨s90, sN, x30, sr⟩ := L
  have e : ∀ i : Int, 1 ≤ i → i ≤ 6 → mm_w (x3 + i) = x3 + i := fun i i0 i1 => mm_wi (by omega) (by omega)
  rw [r_297_79 (hy := hy)]
  simp only [e 1 (by omega) (by omega), e 2 (by omega) (by omega), e 3 (by omega) (by omega), e 4 (by omega) (by omega), e 5 (by omega) (by omega), e 6 (by omega) (by omega), s90]
  refine ⟨⟨by omega, by omega⟩, ?_⟩
  have cA : kk_cA 50 294 [zI (S (x3 + 1))] b h dh nx ns kk_SI := kk_cAs hy hb (by omega) (c_50 (hy := hy) (hc := hc) (hs := hs) (hb := by omega) (ht := sr _ (by omega) (by omega)))
  refine mm_Clm ?_ cA
  rintro r h1 ⟨⟨y, er, _⟩, g, dh1, eg, g90, c2⟩
  subst er eg
  rw [mm_pI, r_297_79_7 (hy := hy)]
  simp only [e 1 (by omega) (by omega), e 2 (by omega) (by omega), e 3 (by omega) (by omega), e 4 (by omega) (by omega), e 5 (by omega) (by omega), e 6 (by omega) (by omega), g90, s90]
  refine ⟨⟨by omega, by omega⟩, ?_⟩
  refine mm_Clm ?_ c2
  rintro r2 h2 ⟨e1, g2, e2, core, sI, q90⟩
  subst e1 e2
  rw [mm_pI, r_297_79_14 (hy := hy), if_pos rfl]
  exact K g2 dh1 core sI (fun j => by rw [q90 j, s90 j])
theorem kk_case50 (hy : 5306 ≤ nx) (hc : kk_core b h dh) (hs : kk_sI h) (hb : b + 1600 ≤ 1000000) (L : kk_LW h S N x3) (K : ∀ g d, kk_core (b + 1600) g d → kk_sI g → (∀ j, g (90, 0, 0) j = S j) → mm_Wp 297 (mm_blk 297 82) [zR (90, 0, 0), zR (1, 0, 0), zR (40, 0, 0), zI x3] [] (mm_z g d nx ns) Q) : mm_Wp 297 (mm_blk 297 80) [zR (90, 0, 0), zR (1, 0, 0), zR (40, 0, 0), zI x3] [] (mm_z h dh nx ns) Q := by
  obtain ⟨s90, sN, x30, sr⟩ := L
  have e : ∀ i : Int, 1 ≤ i → i ≤ 6 → mm_w (x3 + i) = x3 + i := fun i i0 i1 => mm_wi (by omega) (by omega)
  rw [r_297_80 (hy := hy)]
  have cA : kk_cA 51 295 [] b h dh nx ns kk_SI := kk_cAs hy hb (by omega) (c_51 (hy := hy) (hc := hc) (hs := hs) (hb := by omega) )
  refine mm_Clm ?_ cA
  rintro r h1 ⟨⟨y, er, _⟩, g, dh1, eg, g90, c2⟩
  subst er eg
  rw [mm_pI, r_297_80_2 (hy := hy)]
  refine mm_Clm ?_ c2
  rintro r2 h2 ⟨e1, g2, e2, core, sI, q90⟩
  subst e1 e2
  rw [mm_pI, r_297_80_4 (hy := hy), if_pos rfl]
  exact K g2 dh1 core sI (fun j => by rw [q90 j, s90 j])
theorem kk_case51 (hy : 5306 ≤ nx) (hc : kk_core b h dh) (hs : kk_sI h) (hb : b + 1600 ≤ 1000000) (L : kk_LW h S N x3) (K : ∀ g d, kk_core (b + 1600) g d → kk_sI g → (∀ j, g (90, 0, 0) j = S j) → mm_Wp 297 (mm_blk 297 82) [zR (90, 0, 0), zR (1, 0, 0), zR (40, 0, 0), zI x3] [] (mm_z g d nx ns) Q) : mm_Wp 297 (mm_blk 297 81) [zR (90, 0, 0), zR (1, 0, 0), zR (40, 0, 0), zI x3] [] (mm_z h dh nx ns) Q := by
  obtain ⟨s90, sN, x30, sr⟩ := L
  have e : ∀ i : Int, 1 ≤ i → i ≤ 6 → mm_w (x3 + i) = x3 + i := fun i i0 i1 => mm_wi (by omega) (by omega)
  rw [r_297_81 (hy := hy)]
  have cA : kk_cA 52 275 [] b h dh nx ns kk_SI := kk_cAc hy hb hs (c_52 (hy := hy) (hc := hc) (hb := by omega) )
  refine mm_Clm ?_ cA
  rintro r h1 ⟨⟨y, er, _⟩, g, dh1, eg, g90, c2⟩
  subst er eg
  rw [mm_pI, r_297_81_2 (hy := hy)]
  refine mm_Clm ?_ c2
  rintro r2 h2 ⟨e1, g2, e2, core, sI, q90⟩
  subst e1 e2
  rw [mm_pI, r_297_81_4 (hy := hy), if_pos rfl]
  exact K g2 dh1 core sI (fun j => by rw [q90 j, s90 j])
end
