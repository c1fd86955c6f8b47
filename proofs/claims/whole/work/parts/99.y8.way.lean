/-! scripts: a way is walked -/
section
variable {h : mm_Id → Int → Int} {dh : Int → Int} {nx ns : Int} {Q : mm_V → mm_H → Prop}
theorem s148 (hx : 5275 ≤ nx) {p q w : Int} (a12 : h (8, 0, 0) 12 = p) (a13 : h (8, 0, 0) 13 = q) (a14 : h (8, 0, 0) 14 = w) (h0 : 0 ≤ p ∧ p ≤ q ∧ q ≤ 8000) (K1 : w < q ∧ 1 < q - p → Q (zI 1) (mm_z h dh nx ns)) (K0 : ¬ (w < q ∧ 1 < q - p) → Q (zI 0) (mm_z h dh nx ns)) :
    mm_Cl 148 [zR (8, 0, 0)] (mm_z h dh nx ns) Q := by
  rw [r_148_e (hx := hx), a12, a13, a14, mm_wi (by omega) (by omega)]
  by_cases c : w < q
  · rw [if_pos c]
    by_cases c2 : 1 < q - p
    · rw [if_pos c2, r_148_2 (hx := hx)]
      exact ⟨Or.inr rfl, K1 ⟨c, c2⟩⟩
    · rw [if_neg c2, r_148_1 (hx := hx), r_148_2 (hx := hx)]
      exact ⟨Or.inl rfl, K0 (fun k => c2 k.2)⟩
  · rw [if_neg c, r_148_1 (hx := hx), r_148_2 (hx := hx)]
    exact ⟨Or.inl rfl, K0 (fun k => c k.1)⟩
theorem kk_pw7 : ∀ n : Nat, n < 8 → kk_pw n ≤ 10000000 := by decide
theorem kk_dv7 {T : Int → Int} {s f : Int} (q : kk_dig T s f 7) : 0 ≤ kk_dv T s (f - s).toNat ∧ kk_dv T s (f - s).toNat < 10000000 := by
  obtain ⟨q1, q2, q3⟩ := q
  have z := kk_dvb (t := T) (a := s) (f - s).toNat (fun i i0 i1 => q3 i i0 (by omega))
  have w := kk_pw7 (f - s).toNat (by omega)
  omega
theorem s149 (hx : 5275 ≤ nx) {w q f : Int} (a13 : h (8, 0, 0) 13 = q) (a14 : h (8, 0, 0) 14 = w) (h0 : 0 ≤ w ∧ w < q ∧ q ≤ 8000) (hf : kk_fst (fun i => h (9, 0, 0) i = 47) (w + 1) q f)
    (K1 : kk_dig (h (9, 0, 0)) (w + 1) f 7 → Q (zI (kk_dv (h (9, 0, 0)) (w + 1) (f - (w + 1)).toNat)) (mm_z (mm_up h (8, 0, 0) 14 f) dh nx ns)) (K0 : ¬ kk_dig (h (9, 0, 0)) (w + 1) f 7 → Q (zI (-1)) (mm_z (mm_up h (8, 0, 0) 14 f) dh nx ns)) :
    mm_Cl 149 [zR (8, 0, 0)] (mm_z h dh nx ns) Q := by
  obtain ⟨f1, f2, f3, f4⟩ := hf
  have E : mm_Wp 149 (mm_blk 149 2) [zR (8, 0, 0), zI (w + 1)] [] (mm_z (mm_up h (8, 0, 0) 14 f) dh nx ns) Q := by
    have e9 : mm_up h (8, 0, 0) 14 f (9, 0, 0) = h (9, 0, 0) := funext (fun j => mm_upf (by decide))
    rw [r_149_2 (hx := hx), mm_ups]
    refine s145 hx ⟨by omega, by omega, by omega, by omega, by omega⟩ (fun dg => ?_) (fun nd => ?_)
    · rw [e9] at dg ⊢
      have z := kk_dv7 dg
      rw [mm_pL, r_149_2_6 (hx := hx), mm_wi (by omega) (by omega)]
      exact K1 dg
    · rw [e9] at nd
      rw [mm_pL, r_149_2_6 (hx := hx), mm_wi (by omega) (by omega)]
      exact K0 nd
  have L : ∀ (d : Nat) (e : Int), f - e = d → w + 1 ≤ e → mm_Wp 149 (mm_blk 149 1) [zR (8, 0, 0), zI (w + 1)] [] (mm_z (mm_up h (8, 0, 0) 14 e) dh nx ns) Q := by
    intro d
    induction d with
    | zero =>
      intro e e1 e2
      have ef : e = f := by omega
      subst ef
      have c13 : mm_up h (8, 0, 0) 14 e (8, 0, 0) 13 = q := by rw [mm_upj (by decide), a13]
      rw [r_149_1 (hx := hx), mm_ups, c13, mm_upf (by decide)]
      by_cases c : e < q
      · rw [if_pos c, if_pos (f4 c)]
        exact ⟨by omega, E⟩
      · rw [if_neg c]
        exact E
    | succ d ih =>
      intro e e1 e2
      have c13 : mm_up h (8, 0, 0) 14 e (8, 0, 0) 13 = q := by rw [mm_upj (by decide), a13]
      rw [r_149_1 (hx := hx), mm_ups, c13, mm_upf (by decide), if_pos (by omega), if_neg (f3 e e2 (by omega)), mm_wi (by omega) (by omega), mm_upup]
      exact ⟨by omega, ih (e + 1) (by omega) (by omega)⟩
  rw [r_149_e (hx := hx), a14, mm_wi (by omega) (by omega)]
  exact L (f - (w + 1)).toNat (w + 1) (by omega) (by omega)
theorem m289s (hy : 5306 ≤ nx) {x1 x2 w q f : Int} {v4 v6 : mm_V} (b45 : h (40, 0, 0) 45 = q) (h0 : 0 ≤ w ∧ w < q ∧ q ≤ 8000) (hf : kk_fst (fun i => h (67, 0, 0) i = 47) (w + 1) q f)
    (K : mm_Wp 289 (mm_blk 289 5) [zR (40, 0, 0), zI x1, zI x2, zI (w + 1), v4, zI f, v6] [] (mm_z h dh nx ns) Q) :
    mm_Wp 289 (mm_blk 289 4) [zR (40, 0, 0), zI x1, zI x2, zI (w + 1), v4, zI (w + 1), v6] [] (mm_z h dh nx ns) Q := by
  obtain ⟨f1, f2, f3, f4⟩ := hf
  have L : ∀ (d : Nat) (e : Int), f - e = d → w + 1 ≤ e → mm_Wp 289 (mm_blk 289 4) [zR (40, 0, 0), zI x1, zI x2, zI (w + 1), v4, zI e, v6] [] (mm_z h dh nx ns) Q := by
    intro d
    induction d with
    | zero =>
      intro e e1 e2
      have ef : e = f := by omega
      subst ef
      rw [r_289_4 (hy := hy), b45]
      by_cases c : e < q
      · rw [if_pos c, if_pos (f4 c)]
        exact ⟨by omega, K⟩
      · rw [if_neg c]
        exact K
    | succ d ih =>
      intro e e1 e2
      rw [r_289_4 (hy := hy), b45, if_pos (by omega), if_neg (f3 e e2 (by omega)), mm_wi (by omega) (by omega)]
      exact ⟨by omega, ih (e + 1) (by omega) (by omega)⟩
  exact L (f - (w + 1)).toNat (w + 1) (by omega) (by omega)
end
theorem kk_MF {A B : mm_Id → Int → Int} {f : Nat} {t n : Int} (q : f < 40) : kk_M A B (f, t, n) = A (f, t, n) := funext (fun j => if_pos q)
theorem kk_MG {A B : mm_Id → Int → Int} {f : Nat} {t n : Int} (q : 40 ≤ f) : kk_M A B (f, t, n) = B (f, t, n) := funext (fun j => if_neg (by show ¬ f < 40; omega))
theorem mm_srti {g : Int → Int} {c i j : Int} (s : mm_srt g c) (i0 : 0 ≤ i ∧ i < c) (j0 : 0 ≤ j ∧ j < c) (e : g i = g j) : i = j := by
  by_cases q : i < j
  · have := s i j i0.1 q j0.2; omega
  · by_cases q2 : j < i
    · have := s j i j0.1 q2 i0.2; omega
    · omega
section
variable {A B A2 B2 : mm_Id → Int → Int} {d d2 dm : Int → Int} {nx ns b b2 z n : Int} {G : mm_V → (mm_Id → Int → Int) → (Int → Int) → (mm_Id → Int → Int) → Prop} {KC KM : mm_V → mm_H → (mm_V → mm_H → Prop) → Prop}
/-- the tree that a way is walked in, here and there -/
def kk_wt (t : mm_V) (s r : Int) : Prop := t = zR mm_nul ∧ s = -1 ∧ r = 0 ∨ (0 ≤ s ∧ s < 13) ∧ t = zR (22, s, 0) ∧ 0 ≤ r ∧ r < 37
theorem kk_stepJ (hy : 5306 ≤ nx) (hc : kk_core b (kk_M A B) d) {t v1 v5 v6 u6 : mm_V} {s r x x4 x3 x5 u4 : Int} (ht : kk_wt t s r) (hx0 : 0 ≤ x ∧ x < 10000000) (h4 : 0 ≤ x4 ∧ x4 < 8000) (h5 : 0 ≤ x5 ∧ x5 ≤ 8000) (b46 : B (40, 0, 0) 46 = x)
    (K : ∀ r2 v5 v6 u6, kk_wt t s r2 → kk_J nx ns dm G (fun Q => mm_Wp 77 (mm_blk 77 3) [zR (1, 0, 0), v1, t, zI r2, zI (x4 + 1), v5, v6] [] (mm_z A d nx ns) (fun r h => KC r h Q)) (fun Q => mm_Wp 289 (mm_blk 289 3) [zR (40, 0, 0), zI s, zI r2, zI (x5 + 1), zI 1, zI x5, u6] [] (mm_z B dm nx ns) (fun r h => KM r h Q))) :
    kk_J nx ns dm G (fun Q => mm_Wp 77 (bk_77_3.drop 10) [zR (1, 0, 0), v1, t, zI r, zI x4, v5, v6] [zI x] (mm_z A d nx ns) (fun r h => KC r h Q)) (fun Q => mm_Wp 289 (bk_289_5.drop 5) [zR (40, 0, 0), zI s, zI r, zI x3, zI u4, zI x5, u6] [zI 1] (mm_z B dm nx ns) (fun r h => KM r h Q)) := by
  have hx : 5275 ≤ nx := by omega
  -- the reference finds none
  have M0 : ∀ {Q : mm_V → mm_H → Prop}, mm_Wp 289 (mm_blk 289 3) [zR (40, 0, 0), zI s, zI 0, zI (x5 + 1), zI 1, zI x5, zI (-1)] [] (mm_z B dm nx ns) Q → mm_Wp 289 (mm_blk 289 6) [zR (40, 0, 0), zI s, zI r, zI x3, zI 1, zI x5, u6] [] (mm_z B dm nx ns) Q := fun q => by
    rw [r_289_6 (hy := hy), r_289_7 (hy := hy), if_pos (by omega), r_289_9 (hy := hy), mm_wi (by omega) (by omega)]
    exact q
  rcases ht with ⟨t1, t2, t3⟩ | ⟨s0, t1, r0, r1⟩
  · subst t1 t2 t3
    refine kk_J2 (fun Q q => ?_) (fun Q q => ?_) (K 0 (zI x) (zR mm_nul) (zI (-1)) (Or.inl ⟨rfl, rfl, rfl⟩))
    · rw [r_77_3_10 (hx := hx), if_neg (by omega)]
      refine s56n hx ?_
      rw [mm_pR, r_77_4_4 (hx := hx), r_77_6 (hx := hx), mm_wi (by omega) (by omega)]
      exact q
    · rw [r_289_5_5 (hvx3 := rfl) (hy := hy), if_neg (by omega), if_neg (by omega)]
      exact M0 q
  · subst t1
    have it : mm_isT s := by unfold mm_isT; omega
    by_cases c0 : r = 0
    · subst c0
      refine kk_J2 (fun Q q => ?_) (fun Q q => ?_) (K 0 (zI x) (zR mm_nul) (zI (-1)) (Or.inr ⟨s0, rfl, by omega, by omega⟩))
      · rw [r_77_3_10a (htx2 := it) (hx := hx), if_neg (by omega)]
        refine s56 it hx (fun k _ => by omega) (fun _ => ?_)
        rw [mm_pR, r_77_4_4a (htx2 := it) (hx := hx), r_77_6a (htx2 := it) (hx := hx), mm_wi (by omega) (by omega)]
        exact q
      · rw [r_289_5_5 (hvx3 := rfl) (hy := hy), if_neg (by omega), if_neg (by omega)]
        exact M0 q
    · have rn : 1 ≤ r ∧ r < 37 := by omega
      have inn : mm_isN r := ⟨by omega, by omega⟩
      have nw := kk_NWC hc it rn
      have nr := kk_NRC hc (t := s) (n := r) ⟨by omega, by omega⟩ rn
      simp only [kk_NW, kk_MF (show 24 < 40 by decide), kk_MF (show 25 < 40 by decide), kk_MF (show 26 < 40 by decide)] at nw
      simp only [kk_NR, kk_MF (show 24 < 40 by decide), kk_MF (show 25 < 40 by decide), kk_MF (show 26 < 40 by decide), kk_MG (show 40 ≤ 41 by decide), kk_MG (show 40 ≤ 44 by decide), kk_MG (show 40 ≤ 45 by decide), kk_MG (show 40 ≤ 46 by decide)] at nr
      obtain ⟨nw1, nw2, nw3, _, _, _, _, _, _, _, _, nwS, _, nwE, _⟩ := nw
      obtain ⟨nr1, nr2, _, _, nrE, _⟩ := nr
      obtain ⟨V, hV⟩ : ∃ V : mm_V, V = (if A (24, s, r) 0 = 0 then zR mm_nul else zR (24, s, r)) := ⟨_, rfl⟩
      -- the cls, where no entry has the name
      have C0 : (∀ e, 0 ≤ e → e < A (24, s, r) 6 → ¬ A (25, s, r) e = x) → ∀ {Q : mm_V → mm_H → Prop}, mm_Wp 77 (mm_blk 77 3) [zR (1, 0, 0), v1, zR (22, s, 0), zI 0, zI (x4 + 1), zI x, V] [] (mm_z A d nx ns) Q → mm_Wp 77 (bk_77_3.drop 10) [zR (1, 0, 0), v1, zR (22, s, 0), zI r, zI x4, v5, v6] [zI x] (mm_z A d nx ns) Q := fun ne Q q => by
        rw [r_77_3_10a (htx2 := it) (hx := hx), if_neg (by omega)]
        refine s56 it hx (fun k1 k2 => ?_) (fun k => ?_)
        · rw [if_neg k2] at hV
          rw [mm_pR, r_77_4_4b (htx2 := it) (hty0 := it) (hny0 := inn) (hx := hx)]
          refine s99 it inn hx nw2 nwS (fun p p0 p1 p2 => absurd p2 (ne p p0 p1)) (fun _ => ?_)
          rw [mm_pI, r_77_5_3 (htx2 := it) (hx := hx), r_77_6a (htx2 := it) (hx := hx), mm_wi (by omega) (by omega), ← hV]
          exact q
        · rw [if_pos (Classical.byContradiction (fun k2 => k ⟨rn, k2⟩))] at hV
          rw [mm_pR, r_77_4_4a (htx2 := it) (hx := hx), r_77_6a (htx2 := it) (hx := hx), mm_wi (by omega) (by omega), ← hV]
          exact q
      by_cases c1 : ∃ e, (0 ≤ e ∧ e < A (24, s, r) 6) ∧ A (25, s, r) e = x
      · obtain ⟨e, e0, ex⟩ := c1
        have k2 : A (24, s, r) 0 = 2 := Classical.byContradiction (fun k => by have := nw3 k; omega)
        have ne := nwE e e0.1 e0.2
        have re := nrE e e0.1 e0.2
        refine kk_J2 (fun Q q => ?_) (fun Q q => ?_) (K (A (26, s, r) e) (zI x) (zR (24, s, r)) (zI e) (Or.inr ⟨s0, rfl, by omega, by omega⟩))
        · rw [r_77_3_10a (htx2 := it) (hx := hx), if_neg (by omega)]
          refine s56 it hx (fun k1 k2 => ?_) (fun k => absurd ⟨rn, by rw [k2]; omega⟩ k)
          rw [mm_pR, r_77_4_4b (htx2 := it) (hty0 := it) (hny0 := inn) (hx := hx)]
          refine s99 it inn hx nw2 nwS (fun p p0 p1 p2 => ?_) (fun k => absurd ex (k e e0.1 e0.2))
          have ep : p = e := mm_srti nwS ⟨p0, p1⟩ e0 (by rw [p2, ex])
          rw [ep, mm_pI, r_77_5_3 (htx2 := it) (hx := hx), r_77_6a (htx2 := it) (hx := hx), mm_wi (by omega) (by omega)]
          exact q
        · rw [r_289_5_5 (hvx3 := rfl) (hy := hy), if_neg (by omega), if_pos (by omega)]
          refine m211y hy ⟨by omega, by omega⟩ rn nr1.symm k2 ?_
          rw [mm_pI, r_289_5_14 (hy := hy), if_neg (by omega), b46]
          refine m174y hy (by omega) ?_
          rw [mm_pI, r_289_5_20 (hy := hy), if_neg (by omega), b46, mm_wi (by omega) (by omega)]
          refine m184y (p := 0) hy ⟨by omega, by omega⟩ rn nr2.symm nw2 ⟨e, e0, by rw [← re.1, ex]⟩ (fun p p0 p1 p2 => ?_)
          have ep : p = e := mm_srti nwS ⟨p0, p1⟩ e0 (by rw [(nrE p p0 p1).1, p2, ex])
          rw [ep, mm_pI, r_289_5_28 (hy := hy), r_289_7 (hy := hy), if_neg (by omega)]
          refine m185 hy ⟨by omega, by omega⟩ rn (by omega) ?_
          rw [mm_pI, r_289_8_5 (hy := hy), r_289_9 (hy := hy), mm_wi (by omega) (by omega), ← re.2]
          exact q
      · have ne : ∀ e, 0 ≤ e → e < A (24, s, r) 6 → ¬ A (25, s, r) e = x := fun e e0 e1 k => c1 ⟨e, ⟨e0, e1⟩, k⟩
        refine kk_J2 (fun Q q => C0 ne q) (fun Q q => ?_) (K 0 (zI x) V (zI (-1)) (Or.inr ⟨s0, rfl, by omega, by omega⟩))
        rw [r_289_5_5 (hvx3 := rfl) (hy := hy), if_neg (by omega), if_pos (by omega)]
        by_cases k2 : A (24, s, r) 0 = 2
        · refine m211y hy ⟨by omega, by omega⟩ rn nr1.symm k2 ?_
          rw [mm_pI, r_289_5_14 (hy := hy), if_neg (by omega), b46]
          by_cases c2 : 1 ≤ x ∧ x ≤ 1000000
          · refine m174y hy c2 ?_
            rw [mm_pI, r_289_5_20 (hy := hy), if_neg (by omega), b46, mm_wi (by omega) (by omega)]
            refine m184n hy ⟨by omega, by omega⟩ rn nr2.symm nw2 (fun p p0 p1 p2 => ne p p0 p1 (by rw [(nrE p p0 p1).1, p2])) ?_
            rw [mm_pI, r_289_5_28 (hy := hy), r_289_7 (hy := hy), if_pos (by omega), r_289_9 (hy := hy), mm_wi (by omega) (by omega)]
            exact q
          · refine m174n hy c2 ?_
            rw [mm_pI, r_289_5_20 (hy := hy), if_pos rfl]
            exact M0 q
        · refine m211n hy ⟨by omega, by omega⟩ rn nr1.symm k2 ?_
          rw [mm_pI, r_289_5_14 (hy := hy), if_pos rfl]
          exact M0 q
theorem kk_wayC {A1 B1 : mm_Id → Int → Int} (hc : kk_core b (kk_M A B) d) (fA : ∀ x j, ¬ (x = (8, 0, 0) ∧ (j = 8 ∨ j = 14)) → A1 x j = A x j) (fB : ∀ x j, ¬ (x = (40, 0, 0) ∧ j = 46) → B1 x j = B x j) : kk_core b (kk_M A1 B1) d := by
  refine kk_coreR (h := kk_M A B) (fun x j s1 s2 => ?_) hc
  by_cases c : x.1 < 40
  · rw [kk_Mc c, kk_Mc c]
    refine fA _ _ (fun w => s1 ?_)
    rw [w.1]
    simp [kk_scr]
  · rw [kk_Mm (by omega), kk_Mm (by omega)]
    refine fB _ _ (fun w => s1 ?_)
    rw [w.1, w.2]
    simp [kk_scr]
theorem kk_wayE (hy : 5306 ≤ nx) {p q s w r x4 : Int} {t v1 v5 v6 u5 u6 : mm_V} {A1 B1 : mm_Id → Int → Int} (h0 : 0 ≤ p ∧ p ≤ q ∧ q ≤ 8000) (a12 : A (8, 0, 0) 12 = p) (a13 : A (8, 0, 0) 13 = q) (b44 : B (40, 0, 0) 44 = p) (b45 : B (40, 0, 0) 45 = q)
    (K1 : ∀ A2 B2 v, (∀ x j, ¬ (x = (8, 0, 0) ∧ (j = 8 ∨ j = 14)) → A2 x j = A x j) → (∀ x j, ¬ (x = (40, 0, 0) ∧ j = 46) → B2 x j = B x j) → (0 ≤ v ∧ v < 37) → A2 (8, 0, 0) 8 = v → B2 (40, 0, 0) 46 = v → kk_J nx ns dm G (fun Q => KC (zI 1) (mm_z A2 d nx ns) Q) (fun Q => KM (zI 1) (mm_z B2 dm nx ns) Q))
    (e2 : p ≤ w) (e5 : w ≤ q) (ht : kk_wt t s r) (fA : ∀ x j, ¬ (x = (8, 0, 0) ∧ (j = 8 ∨ j = 14)) → A1 x j = A x j) (fB : ∀ x j, ¬ (x = (40, 0, 0) ∧ j = 46) → B1 x j = B x j) (a14 : A1 (8, 0, 0) 14 = w) (c : ¬ (w < q ∧ 1 < q - p)) :
      kk_J nx ns dm G (fun Q => mm_Wp 77 (mm_blk 77 3) [zR (1, 0, 0), v1, t, zI r, zI x4, v5, v6] [] (mm_z A1 d nx ns) (fun r h => KC r h Q)) (fun Q => mm_Wp 289 (mm_blk 289 3) [zR (40, 0, 0), zI s, zI r, zI (w + 1), zI 1, u5, u6] [] (mm_z B1 dm nx ns) (fun r h => KM r h Q)) := by
  have hx : 5275 ≤ nx := by omega
  have A12 : A1 (8, 0, 0) 12 = p := by rw [fA _ _ (by simp)]; exact a12
  have A13 : A1 (8, 0, 0) 13 = q := by rw [fA _ _ (by simp)]; exact a13
  have B44 : B1 (40, 0, 0) 44 = p := by rw [fB _ _ (by simp)]; exact b44
  have B45 : B1 (40, 0, 0) 45 = q := by rw [fB _ _ (by simp)]; exact b45
  have rr : 0 ≤ r ∧ r < 37 := by
    rcases ht with ⟨_, _, t3⟩ | ⟨_, _, r0⟩
    · omega
    · exact r0
  refine kk_J2 (fun Q g => ?_) (fun Q g => ?_) (K1 (mm_up A1 (8, 0, 0) 8 r) (mm_up B1 (40, 0, 0) 46 r) r (fun x j n => by rw [mm_upne' (fun m => n ⟨m.1, Or.inl m.2⟩)]; exact fA x j n) (fun x j n => by rw [mm_upne' n]; exact fB x j n) rr (by rw [mm_ups]) (by rw [mm_ups]))
  · have Z : mm_Wp 77 (mm_blk 77 7) [zR (1, 0, 0), v1, t, zI r, zI x4, v5, v6] [] (mm_z A1 d nx ns) (fun r h => KC r h Q) := by
      rw [r_77_7 (hx := hx)]
      exact g
    rcases ht with ⟨t1, t2, t3⟩ | ⟨s0, t1, r0, r1⟩
    · subst t1
      rw [r_77_3 (hx := hx)]
      by_cases x8 : x4 < 8000
      · rw [if_pos x8]
        refine s148 hx A12 A13 a14 h0 (fun n => absurd n c) (fun _ => ?_)
        rw [mm_pI, r_77_3_6 (hx := hx), if_pos rfl]
        exact Z
      · rw [if_neg x8]; exact Z
    · subst t1
      have it : mm_isT s := by unfold mm_isT; omega
      rw [r_77_3a (htx2 := it) (hx := hx)]
      by_cases x8 : x4 < 8000
      · rw [if_pos x8]
        refine s148 hx A12 A13 a14 h0 (fun n => absurd n c) (fun _ => ?_)
        rw [mm_pI, r_77_3_6a (htx2 := it) (hx := hx), if_pos rfl]
        exact Z
      · rw [if_neg x8]; exact Z
  · have Z : mm_Wp 289 (mm_blk 289 10) [zR (40, 0, 0), zI s, zI r, zI (w + 1), zI 1, u5, u6] [] (mm_z B1 dm nx ns) (fun r h => KM r h Q) := by
      rw [r_289_10 (hy := hy)]
      exact ⟨Or.inr rfl, g⟩
    rw [r_289_3 (hy := hy), if_neg (by omega), B44, B45, mm_wi (z := q + 1) (by omega) (by omega), mm_wi (z := q - p) (by omega) (by omega)]
    by_cases c1 : w < q
    · rw [if_pos (by omega), if_neg (by omega)]
      exact Z
    · rw [if_neg (by omega)]
      exact Z
theorem kk_wayL (hy : 5306 ≤ nx) {p q s : Int} {t v1 : mm_V} (T : ∀ i, 0 ≤ i → i < q → A (9, 0, 0) i = B (67, 0, 0) i) (h0 : 0 ≤ p ∧ p ≤ q ∧ q ≤ 8000) (hc : kk_core b (kk_M A B) d) (a12 : A (8, 0, 0) 12 = p) (a13 : A (8, 0, 0) 13 = q) (b44 : B (40, 0, 0) 44 = p) (b45 : B (40, 0, 0) 45 = q)
    (K1 : ∀ A2 B2 v, (∀ x j, ¬ (x = (8, 0, 0) ∧ (j = 8 ∨ j = 14)) → A2 x j = A x j) → (∀ x j, ¬ (x = (40, 0, 0) ∧ j = 46) → B2 x j = B x j) → (0 ≤ v ∧ v < 37) → A2 (8, 0, 0) 8 = v → B2 (40, 0, 0) 46 = v → kk_J nx ns dm G (fun Q => KC (zI 1) (mm_z A2 d nx ns) Q) (fun Q => KM (zI 1) (mm_z B2 dm nx ns) Q))
    (K0 : ∀ A2 B2, (∀ x j, ¬ (x = (8, 0, 0) ∧ (j = 8 ∨ j = 14)) → A2 x j = A x j) → (∀ x j, ¬ (x = (40, 0, 0) ∧ j = 46) → B2 x j = B x j) → kk_J nx ns dm G (fun Q => KC (zI 0) (mm_z A2 d nx ns) Q) (fun Q => KM (zI 0) (mm_z B2 dm nx ns) Q)) :
    ∀ (k : Nat) (w r x4 : Int) (A1 B1 : mm_Id → Int → Int) (v5 v6 u5 u6 : mm_V), q - w ≤ k → p ≤ w → 0 ≤ x4 → x4 ≤ w - p → w ≤ q → kk_wt t s r → (∀ x j, ¬ (x = (8, 0, 0) ∧ (j = 8 ∨ j = 14)) → A1 x j = A x j) → (∀ x j, ¬ (x = (40, 0, 0) ∧ j = 46) → B1 x j = B x j) → A1 (8, 0, 0) 14 = w →
      kk_J nx ns dm G (fun Q => mm_Wp 77 (mm_blk 77 3) [zR (1, 0, 0), v1, t, zI r, zI x4, v5, v6] [] (mm_z A1 d nx ns) (fun r h => KC r h Q)) (fun Q => mm_Wp 289 (mm_blk 289 3) [zR (40, 0, 0), zI s, zI r, zI (w + 1), zI 1, u5, u6] [] (mm_z B1 dm nx ns) (fun r h => KM r h Q)) := by
  have hx : 5275 ≤ nx := by omega
  intro k
  induction k with
  | zero =>
    intro w r x4 A1 B1 v5 v6 u5 u6 e1 e2 e3 e4 e5 ht fA fB a14
    exact kk_wayE hy h0 a12 a13 b44 b45 K1 e2 e5 ht fA fB a14 (fun k => by omega)
  | succ k ih =>
    intro w r x4 A1 B1 v5 v6 u5 u6 e1 e2 e3 e4 e5 ht fA fB a14
    by_cases c : w < q ∧ 1 < q - p
    · have A12 : A1 (8, 0, 0) 12 = p := by rw [fA _ _ (by simp)]; exact a12
      have A13 : A1 (8, 0, 0) 13 = q := by rw [fA _ _ (by simp)]; exact a13
      have B44 : B1 (40, 0, 0) 44 = p := by rw [fB _ _ (by simp)]; exact b44
      have B45 : B1 (40, 0, 0) 45 = q := by rw [fB _ _ (by simp)]; exact b45
      have A9 : A1 (9, 0, 0) = A (9, 0, 0) := funext (fun j => fA _ _ (by simp))
      have B67 : B1 (67, 0, 0) = B (67, 0, 0) := funext (fun j => fB _ _ (by simp))
      obtain ⟨f, hf⟩ := kk_fstex (fun i => A1 (9, 0, 0) i = 47) (w + 1) q (by omega)
      have f1 := hf.1
      have f2 := hf.2.1
      have mf : kk_fst (fun i => B1 (67, 0, 0) i = 47) (w + 1) q f := kk_fste hf (fun i i0 i1 => by rw [A9, B67, T i (by omega) i1])
      have dgi : kk_dig (A1 (9, 0, 0)) (w + 1) f 7 ↔ kk_dig (B1 (67, 0, 0)) (w + 1) f 7 := by
        unfold kk_dig
        rw [A9, B67]
        constructor
        · rintro ⟨q1, q2, q3⟩
          exact ⟨q1, q2, fun i i0 i1 => by rw [← T i (by omega) (by omega)]; exact q3 i i0 i1⟩
        · rintro ⟨q1, q2, q3⟩
          exact ⟨q1, q2, fun i i0 i1 => by rw [T i (by omega) (by omega)]; exact q3 i i0 i1⟩
      have dvi : kk_dv (B1 (67, 0, 0)) (w + 1) (f - (w + 1)).toNat = kk_dv (A1 (9, 0, 0)) (w + 1) (f - (w + 1)).toNat := kk_dve _ (fun i i0 i1 => by rw [A9, B67, T i (by omega) (by omega)])
      have fA2 : ∀ v x j, ¬ (x = (8, 0, 0) ∧ (j = 8 ∨ j = 14)) → mm_up A1 (8, 0, 0) 14 v x j = A x j := fun v x j n => by rw [mm_upne' (fun m => n ⟨m.1, Or.inr m.2⟩)]; exact fA x j n
      have fB2 : ∀ v x j, ¬ (x = (40, 0, 0) ∧ j = 46) → mm_up B1 (40, 0, 0) 46 v x j = B x j := fun v x j n => by rw [mm_upne' n]; exact fB x j n
      -- the cls as far as the name
      have C : ∀ y {Q : mm_V → mm_H → Prop}, (kk_dig (A1 (9, 0, 0)) (w + 1) f 7 → y = kk_dv (A1 (9, 0, 0)) (w + 1) (f - (w + 1)).toNat) → (¬ kk_dig (A1 (9, 0, 0)) (w + 1) f 7 → y = -1) → mm_Wp 77 (bk_77_3.drop 10) [zR (1, 0, 0), v1, t, zI r, zI x4, v5, v6] [zI y] (mm_z (mm_up A1 (8, 0, 0) 14 f) d nx ns) Q → mm_Wp 77 (mm_blk 77 3) [zR (1, 0, 0), v1, t, zI r, zI x4, v5, v6] [] (mm_z A1 d nx ns) Q := fun y Q y1 y2 g => by
        have Z : mm_Cl 149 [zR (8, 0, 0)] (mm_z A1 d nx ns) (fun r1 h3 => mm_Wp 77 (bk_77_3.drop 10) [zR (1, 0, 0), v1, t, zI r, zI x4, v5, v6] (mm_push r1 []) h3 Q) := by
          refine s149 hx A13 a14 ⟨by omega, c.1, h0.2.2⟩ hf (fun dg => ?_) (fun nd => ?_)
          · rw [mm_pI, ← y1 dg]; exact g
          · rw [mm_pI, ← y2 nd]; exact g
        rcases ht with ⟨t1, t2, t3⟩ | ⟨s0, t1, r0, r1⟩
        · subst t1
          rw [r_77_3 (hx := hx), if_pos (by omega)]
          refine s148 hx A12 A13 a14 h0 (fun _ => ?_) (fun n => absurd c n)
          rw [mm_pI, r_77_3_6 (hx := hx), if_neg (by omega)]
          exact Z
        · subst t1
          have it : mm_isT s := by unfold mm_isT; omega
          rw [r_77_3a (htx2 := it) (hx := hx), if_pos (by omega)]
          refine s148 hx A12 A13 a14 h0 (fun _ => ?_) (fun n => absurd c n)
          rw [mm_pI, r_77_3_6a (htx2 := it) (hx := hx), if_neg (by omega)]
          exact Z
      by_cases dg : kk_dig (A1 (9, 0, 0)) (w + 1) f 7
      · have z := kk_dv7 dg
        have hc2 : kk_core b (kk_M (mm_up A1 (8, 0, 0) 14 f) (mm_up B1 (40, 0, 0) 46 (kk_dv (B1 (67, 0, 0)) (w + 1) (f - (w + 1)).toNat))) d := kk_wayC hc (fA2 f) (fB2 _)
        refine kk_J2 (fun Q g => C _ (fun _ => rfl) (fun n => absurd dg n) g) (fun Q g => ?_) (kk_stepJ (G := G) (KC := KC) (KM := KM) (dm := dm) (t := t) (s := s) (r := r) (x4 := x4) (x3 := w + 1) (x5 := f) (u4 := 1) (v1 := v1) (v5 := v5) (v6 := v6) (u6 := u6) hy hc2 ht z ⟨by omega, by omega⟩ ⟨by omega, by omega⟩ (by rw [mm_ups, dvi]) (fun r2 v5 v6 u6 w2 => ih f r2 (x4 + 1) _ _ v5 v6 (zI f) u6 (by omega) (by omega) (by omega) (by omega) f2 w2 (fA2 f) (fB2 _) (by rw [mm_ups])))
        rw [r_289_3 (hy := hy), if_neg (by omega), B44, B45, mm_wi (z := q + 1) (by omega) (by omega), mm_wi (z := q - p) (by omega) (by omega), if_pos (by omega), if_pos c.2]
        refine m289s hy B45 ⟨by omega, c.1, h0.2.2⟩ mf ?_
        rw [r_289_5 (hy := hy)]
        refine m288 hy ⟨by omega, by omega, by omega, by omega, by omega⟩ (fun _ => ?_) (fun n => absurd (dgi.1 dg) n)
        exact g
      · refine kk_J2 (fun Q g => C (-1) (fun n => absurd n dg) (fun _ => rfl) ?_) (fun Q g => ?_) (K0 (mm_up A1 (8, 0, 0) 14 f) (mm_up (mm_up B1 (40, 0, 0) 46 0) (40, 0, 0) 46 0) (fA2 f) (fun x j n => by rw [mm_upne' n]; exact fB2 _ x j n))
        · rcases ht with ⟨t1, t2, t3⟩ | ⟨s0, t1, r0, r1⟩
          · subst t1
            rw [r_77_3_10 (hx := hx), if_pos (by omega)]
            exact g
          · subst t1
            have it : mm_isT s := by unfold mm_isT; omega
            rw [r_77_3_10a (htx2 := it) (hx := hx), if_pos (by omega)]
            exact g
        · rw [r_289_3 (hy := hy), if_neg (by omega), B44, B45, mm_wi (z := q + 1) (by omega) (by omega), mm_wi (z := q - p) (by omega) (by omega), if_pos (by omega), if_pos c.2]
          refine m289s hy B45 ⟨by omega, c.1, h0.2.2⟩ mf ?_
          rw [r_289_5 (hy := hy)]
          refine m288 hy ⟨by omega, by omega, by omega, by omega, by omega⟩ (fun y => absurd (dgi.2 y) dg) (fun _ v => ?_)
          rw [mm_pI, r_289_5_5 (hvx3 := rfl) (hy := hy), if_pos rfl, r_289_6 (hy := hy), r_289_7 (hy := hy), if_pos (by omega), r_289_9 (hy := hy), r_289_3 (hy := hy), if_pos rfl, r_289_10 (hy := hy)]
          refine ⟨Or.inl rfl, ?_⟩
          rw [mm_upup] at g ⊢
          exact g
    · exact kk_wayE hy h0 a12 a13 b44 b45 K1 e2 e5 ht fA fB a14 (fun k => c k)
end
