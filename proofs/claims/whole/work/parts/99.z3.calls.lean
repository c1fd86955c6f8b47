/-! scripts: the calls of lines -/
theorem kk_wr {x : Int} : -2147483648 ≤ mm_w x ∧ mm_w x < 2147483648 := by unfold mm_w; omega
section
variable {A B A2 B2 : mm_Id → Int → Int} {d d2 dm : Int → Int} {nx ns b b2 z n : Int} {G : mm_V → (mm_Id → Int → Int) → (Int → Int) → (mm_Id → Int → Int) → Prop} {KC KM : mm_V → mm_H → (mm_V → mm_H → Prop) → Prop}
/-- make -/
theorem kk_do0 (hy : 5306 ≤ nx) {u1 u2 u4 u6 u7 : mm_V} (l : kk_L b z n A B d) (hb : b + 1 ≤ 1000000) (gv : kk_gv 0 4 A B)
    (K : ∀ v A2 d2 B2 v6 v7, (-9223372036854775808 ≤ v ∧ v < 9223372036854775808) → kk_L (b + 1) z n A2 B2 d2 → A2 (8, 0, 0) 10 = A (8, 0, 0) 10 → kk_J nx ns dm G (fun Q => KC (zL v) (mm_z A2 d2 nx ns) Q) (fun Q => mm_Wp 292 (mm_blk 292 10) [zR (40, 0, 0), u1, u2, zI 0, u4, zI 4, v6, v7] [zL v] (mm_z B2 dm nx ns) (fun r h => KM r h Q))) :
    kk_J nx ns dm G (fun Q => mm_Cl 78 [zR (1, 0, 0), zR (92, 0, 0), zR (12, 0, 0)] (mm_z A d nx ns) (fun r h => KC r h Q)) (fun Q => mm_Wp 292 (bk_292_6.drop 5) [zR (40, 0, 0), u1, u2, zI 0, u4, zI 4, u6, u7] [zI 0] (mm_z B dm nx ns) (fun r h => KM r h Q)) := by
  have hx : 5275 ≤ nx := by omega
  obtain ⟨e0, r0, k0⟩ := gv 0 (by omega) (by omega)
  obtain ⟨e1, r1, k1⟩ := gv 1 (by omega) (by omega)
  obtain ⟨e2, r2, k2⟩ := gv 2 (by omega) (by omega)
  obtain ⟨e3, r3, k3⟩ := gv 3 (by omega) (by omega)
  refine kk_J2 (P1 := fun Q => mm_Cl 1 (zR (1, 0, 0) :: [zI (mm_w (A (12, 0, 0) 0)), zI (mm_w (A (12, 0, 0) 1)), zI (mm_w (A (12, 0, 0) 2)), zI (mm_w (A (12, 0, 0) 3))]) (mm_z A d nx ns) (fun r h => (fun r h Q => ∃ y, r = zI y ∧ (∃ g dg, h = mm_z g dg nx ns) ∧ KC (zL y) h Q) r h Q)) (P3 := fun Q => mm_Cl 212 (zR (40, 0, 0) :: [zI (mm_w (A (12, 0, 0) 0)), zI (mm_w (A (12, 0, 0) 1)), zI (mm_w (A (12, 0, 0) 2)), zI (mm_w (A (12, 0, 0) 3))]) (mm_z B dm nx ns) (fun r h => (fun r h Q => ∃ y, r = zI y ∧ (∃ g dg, h = mm_z g dg nx ns) ∧ mm_Wp 292 (mm_blk 292 10) [zR (40, 0, 0), u1, u2, zI 0, u4, zI 4, u6, u7] [zL y] h (fun r h => KM r h Q)) r h Q)) (fun Q q => ?_) (fun Q q => ?_) ?_
  · rw [r_78_e (htx1 := ⟨by omega, by omega⟩) (hx := hx)]
    refine ⟨by omega, ?_⟩
    rw [show mm_sw 2 (mm_ro (94, 0, 0) 0) = 1 by decide]
    rw [r_78_1 (hx := hx)]
    refine mm_Clm (fun r h3 => ?_) q
    rintro ⟨y, rfl, ⟨g, dg, rfl⟩, q2⟩
    rw [mm_pI, r_78_1_6 (hx := hx)]
    exact q2
  · rw [r_292_6_5 (hy := hy), if_pos rfl]
    rw [if_pos (by omega)]
    rw [r_284_e (hy := hy), show mm_sw 6 0 = 1 by decide]
    rw [r_284_1 (hy := hy), ← e0, ← e1, ← e2, ← e3]
    refine mm_Clm (fun r h3 => ?_) q
    rintro ⟨y, rfl, ⟨g, dg, rfl⟩, q2⟩
    rw [mm_pI, r_284_1_22 (hy := hy), mm_pL, r_292_7_6 (hy := hy)]
    exact q2
  · refine kk_callJ (a := [zI (mm_w (A (12, 0, 0) 0)), zI (mm_w (A (12, 0, 0) 1)), zI (mm_w (A (12, 0, 0) 2)), zI (mm_w (A (12, 0, 0) 3))]) (KC := fun r h Q => ∃ y, r = zI y ∧ (∃ g dg, h = mm_z g dg nx ns) ∧ KC (zL y) h Q) (KM := fun r h Q => ∃ y, r = zI y ∧ (∃ g dg, h = mm_z g dg nx ns) ∧ mm_Wp 292 (mm_blk 292 10) [zR (40, 0, 0), u1, u2, zI 0, u4, zI 4, u6, u7] [zL y] h (fun r h => KM r h Q)) hy l (by simp) (c_1 (hy := hy) (hc := l.1) (hb := hb) (ht := kk_wr) (hn := kk_wr) (hk := kk_wr) (hl := kk_wr)) (fun r A2 d2 B2 sr l2 sA sB => ?_)
    obtain ⟨y, er, y0, y1⟩ := sr
    exact kk_J2 (fun Q q => ⟨y, er, ⟨A2, d2, rfl⟩, q⟩) (fun Q q => ⟨y, er, ⟨B2, dm, rfl⟩, q⟩) (K y A2 d2 B2 u6 u7 ⟨by omega, by omega⟩ l2 (sA _ _ (by simp [kk_scr]) (by decide)))
/-- step -/
theorem kk_do1 (hy : 5306 ≤ nx) {u1 u2 u4 u6 u7 : mm_V} (l : kk_L b z n A B d) (hb : b + 1 ≤ 1000000) (gv : kk_gv 1 1 A B)
    (K : ∀ v A2 d2 B2 v6 v7, (-9223372036854775808 ≤ v ∧ v < 9223372036854775808) → kk_L (b + 1) z n A2 B2 d2 → A2 (8, 0, 0) 10 = A (8, 0, 0) 10 → kk_J nx ns dm G (fun Q => KC (zL v) (mm_z A2 d2 nx ns) Q) (fun Q => mm_Wp 292 (mm_blk 292 10) [zR (40, 0, 0), u1, u2, zI 1, u4, zI 1, v6, v7] [zL v] (mm_z B2 dm nx ns) (fun r h => KM r h Q))) :
    kk_J nx ns dm G (fun Q => mm_Cl 78 [zR (1, 0, 0), zR (92, 1, 0), zR (12, 0, 0)] (mm_z A d nx ns) (fun r h => KC r h Q)) (fun Q => mm_Wp 292 (bk_292_6.drop 5) [zR (40, 0, 0), u1, u2, zI 1, u4, zI 1, u6, u7] [zI 0] (mm_z B dm nx ns) (fun r h => KM r h Q)) := by
  have hx : 5275 ≤ nx := by omega
  obtain ⟨e0, r0, k0⟩ := gv 0 (by omega) (by omega)
  refine kk_J2 (P1 := fun Q => mm_Cl 2 (zR (1, 0, 0) :: [zI (mm_w (A (12, 0, 0) 0))]) (mm_z A d nx ns) (fun r h => (fun r h Q => ∃ y, r = zI y ∧ (∃ g dg, h = mm_z g dg nx ns) ∧ KC (zL y) h Q) r h Q)) (P3 := fun Q => mm_Cl 214 (zR (40, 0, 0) :: [zI (mm_w (A (12, 0, 0) 0))]) (mm_z B dm nx ns) (fun r h => (fun r h Q => ∃ y, r = zI y ∧ (∃ g dg, h = mm_z g dg nx ns) ∧ mm_Wp 292 (mm_blk 292 10) [zR (40, 0, 0), u1, u2, zI 1, u4, zI 1, u6, u7] [zL y] h (fun r h => KM r h Q)) r h Q)) (fun Q q => ?_) (fun Q q => ?_) ?_
  · rw [r_78_e (htx1 := ⟨by omega, by omega⟩) (hx := hx)]
    refine ⟨by omega, ?_⟩
    rw [show mm_sw 2 (mm_ro (94, 0, 0) 1) = 2 by decide]
    rw [r_78_2 (hx := hx)]
    refine mm_Clm (fun r h3 => ?_) q
    rintro ⟨y, rfl, ⟨g, dg, rfl⟩, q2⟩
    rw [mm_pI, r_78_2_3 (hx := hx)]
    exact q2
  · rw [r_292_6_5 (hy := hy), if_pos rfl]
    rw [if_pos (by omega)]
    rw [r_284_e (hy := hy), show mm_sw 6 1 = 2 by decide]
    rw [r_284_2 (hy := hy), ← e0]
    refine mm_Clm (fun r h3 => ?_) q
    rintro ⟨y, rfl, ⟨g, dg, rfl⟩, q2⟩
    rw [mm_pI, r_284_2_7 (hy := hy), mm_pL, r_292_7_6 (hy := hy)]
    exact q2
  · refine kk_callJ (a := [zI (mm_w (A (12, 0, 0) 0))]) (KC := fun r h Q => ∃ y, r = zI y ∧ (∃ g dg, h = mm_z g dg nx ns) ∧ KC (zL y) h Q) (KM := fun r h Q => ∃ y, r = zI y ∧ (∃ g dg, h = mm_z g dg nx ns) ∧ mm_Wp 292 (mm_blk 292 10) [zR (40, 0, 0), u1, u2, zI 1, u4, zI 1, u6, u7] [zL y] h (fun r h => KM r h Q)) hy l (by simp) (c_2 (hy := hy) (hc := l.1) (hb := hb) (ht := kk_wr)) (fun r A2 d2 B2 sr l2 sA sB => ?_)
    obtain ⟨y, er, y0, y1⟩ := sr
    exact kk_J2 (fun Q q => ⟨y, er, ⟨A2, d2, rfl⟩, q⟩) (fun Q q => ⟨y, er, ⟨B2, dm, rfl⟩, q⟩) (K y A2 d2 B2 u6 u7 ⟨by omega, by omega⟩ l2 (sA _ _ (by simp [kk_scr]) (by decide)))
/-- makeLink -/
theorem kk_do2 (hy : 5306 ≤ nx) {u1 u2 u4 u6 u7 : mm_V} (l : kk_L b z n A B d) (hb : b + 1 ≤ 1000000) (gv : kk_gv 2 4 A B)
    (K : ∀ v A2 d2 B2 v6 v7, (-9223372036854775808 ≤ v ∧ v < 9223372036854775808) → kk_L (b + 1) z n A2 B2 d2 → A2 (8, 0, 0) 10 = A (8, 0, 0) 10 → kk_J nx ns dm G (fun Q => KC (zL v) (mm_z A2 d2 nx ns) Q) (fun Q => mm_Wp 292 (mm_blk 292 10) [zR (40, 0, 0), u1, u2, zI 2, u4, zI 4, v6, v7] [zL v] (mm_z B2 dm nx ns) (fun r h => KM r h Q))) :
    kk_J nx ns dm G (fun Q => mm_Cl 78 [zR (1, 0, 0), zR (92, 2, 0), zR (12, 0, 0)] (mm_z A d nx ns) (fun r h => KC r h Q)) (fun Q => mm_Wp 292 (bk_292_6.drop 5) [zR (40, 0, 0), u1, u2, zI 2, u4, zI 4, u6, u7] [zI 0] (mm_z B dm nx ns) (fun r h => KM r h Q)) := by
  have hx : 5275 ≤ nx := by omega
  obtain ⟨e0, r0, k0⟩ := gv 0 (by omega) (by omega)
  obtain ⟨e1, r1, k1⟩ := gv 1 (by omega) (by omega)
  obtain ⟨e2, r2, k2⟩ := gv 2 (by omega) (by omega)
  obtain ⟨e3, r3, k3⟩ := gv 3 (by omega) (by omega)
  have t3 := k3.2 (by decide +kernel)
  refine kk_J2 (P1 := fun Q => mm_Cl 3 (zR (1, 0, 0) :: [zI (mm_w (A (12, 0, 0) 0)), zI (mm_w (A (12, 0, 0) 1)), zI (mm_w (A (12, 0, 0) 2)), zI (A (12, 0, 0) 3)]) (mm_z A d nx ns) (fun r h => (fun r h Q => ∃ y, r = zI y ∧ (∃ g dg, h = mm_z g dg nx ns) ∧ KC (zL y) h Q) r h Q)) (P3 := fun Q => mm_Cl 215 (zR (40, 0, 0) :: [zI (mm_w (A (12, 0, 0) 0)), zI (mm_w (A (12, 0, 0) 1)), zI (mm_w (A (12, 0, 0) 2)), zI (A (12, 0, 0) 3)]) (mm_z B dm nx ns) (fun r h => (fun r h Q => ∃ y, r = zI y ∧ (∃ g dg, h = mm_z g dg nx ns) ∧ mm_Wp 292 (mm_blk 292 10) [zR (40, 0, 0), u1, u2, zI 2, u4, zI 4, u6, u7] [zL y] h (fun r h => KM r h Q)) r h Q)) (fun Q q => ?_) (fun Q q => ?_) ?_
  · rw [r_78_e (htx1 := ⟨by omega, by omega⟩) (hx := hx)]
    refine ⟨by omega, ?_⟩
    rw [show mm_sw 2 (mm_ro (94, 0, 0) 2) = 3 by decide]
    rw [r_78_3 (hx := hx)]
    rcases t3 with t | t
    · rw [if_neg (by rw [t]; decide), r_78_5 (hx := hx)]
      rw [t] at q
      refine mm_Clm (fun r h3 => ?_) q
      rintro ⟨y, rfl, ⟨g, dg, rfl⟩, q2⟩
      rw [mm_pI, r_78_5_1 (hx := hx)]
      exact q2
    · rw [if_pos (by rw [t]; decide), r_78_5 (hx := hx)]
      rw [t] at q
      refine mm_Clm (fun r h3 => ?_) q
      rintro ⟨y, rfl, ⟨g, dg, rfl⟩, q2⟩
      rw [mm_pI, r_78_5_1 (hx := hx)]
      exact q2
  · rw [r_292_6_5 (hy := hy), if_pos rfl]
    rw [if_pos (by omega)]
    rw [r_284_e (hy := hy), show mm_sw 6 2 = 3 by decide]
    rw [r_284_3 (hy := hy), ← e0, ← e1, ← e2, ← e3]
    rcases t3 with t | t
    · rw [if_neg (by rw [t]; decide), r_284_5 (hy := hy)]
      rw [t] at q
      refine mm_Clm (fun r h3 => ?_) q
      rintro ⟨y, rfl, ⟨g, dg, rfl⟩, q2⟩
      rw [mm_pI, r_284_5_1 (hy := hy), mm_pL, r_292_7_6 (hy := hy)]
      exact q2
    · rw [if_pos (by rw [t]; decide), r_284_5 (hy := hy)]
      rw [t] at q
      refine mm_Clm (fun r h3 => ?_) q
      rintro ⟨y, rfl, ⟨g, dg, rfl⟩, q2⟩
      rw [mm_pI, r_284_5_1 (hy := hy), mm_pL, r_292_7_6 (hy := hy)]
      exact q2
  · refine kk_callJ (a := [zI (mm_w (A (12, 0, 0) 0)), zI (mm_w (A (12, 0, 0) 1)), zI (mm_w (A (12, 0, 0) 2)), zI (A (12, 0, 0) 3)]) (KC := fun r h Q => ∃ y, r = zI y ∧ (∃ g dg, h = mm_z g dg nx ns) ∧ KC (zL y) h Q) (KM := fun r h Q => ∃ y, r = zI y ∧ (∃ g dg, h = mm_z g dg nx ns) ∧ mm_Wp 292 (mm_blk 292 10) [zR (40, 0, 0), u1, u2, zI 2, u4, zI 4, u6, u7] [zL y] h (fun r h => KM r h Q)) hy l (by simp) (c_3 (hy := hy) (hc := l.1) (hb := hb) (ht := kk_wr) (hn := kk_wr) (hk := kk_wr) (hl := t3)) (fun r A2 d2 B2 sr l2 sA sB => ?_)
    obtain ⟨y, er, y0, y1⟩ := sr
    exact kk_J2 (fun Q q => ⟨y, er, ⟨A2, d2, rfl⟩, q⟩) (fun Q q => ⟨y, er, ⟨B2, dm, rfl⟩, q⟩) (K y A2 d2 B2 u6 u7 ⟨by omega, by omega⟩ l2 (sA _ _ (by simp [kk_scr]) (by decide)))
/-- walk -/
theorem kk_do3 (hy : 5306 ≤ nx) {u1 u2 u4 u6 u7 : mm_V} (l : kk_L b z n A B d) (hb : b + 1 ≤ 1000000) (gv : kk_gv 3 3 A B)
    (K : ∀ v A2 d2 B2 v6 v7, (-9223372036854775808 ≤ v ∧ v < 9223372036854775808) → kk_L (b + 1) z n A2 B2 d2 → A2 (8, 0, 0) 10 = A (8, 0, 0) 10 → kk_J nx ns dm G (fun Q => KC (zL v) (mm_z A2 d2 nx ns) Q) (fun Q => mm_Wp 292 (mm_blk 292 10) [zR (40, 0, 0), u1, u2, zI 3, u4, zI 3, v6, v7] [zL v] (mm_z B2 dm nx ns) (fun r h => KM r h Q))) :
    kk_J nx ns dm G (fun Q => mm_Cl 78 [zR (1, 0, 0), zR (92, 3, 0), zR (12, 0, 0)] (mm_z A d nx ns) (fun r h => KC r h Q)) (fun Q => mm_Wp 292 (bk_292_6.drop 5) [zR (40, 0, 0), u1, u2, zI 3, u4, zI 3, u6, u7] [zI 0] (mm_z B dm nx ns) (fun r h => KM r h Q)) := by
  have hx : 5275 ≤ nx := by omega
  obtain ⟨e0, r0, k0⟩ := gv 0 (by omega) (by omega)
  obtain ⟨e1, r1, k1⟩ := gv 1 (by omega) (by omega)
  obtain ⟨e2, r2, k2⟩ := gv 2 (by omega) (by omega)
  have t2 := k2.2 (by decide +kernel)
  refine kk_J2 (P1 := fun Q => mm_Cl 4 (zR (1, 0, 0) :: [zI (mm_w (A (12, 0, 0) 0)), zI (mm_w (A (12, 0, 0) 1)), zI (A (12, 0, 0) 2)]) (mm_z A d nx ns) (fun r h => (fun r h Q => ∃ y, r = zI y ∧ (∃ g dg, h = mm_z g dg nx ns) ∧ KC (zL y) h Q) r h Q)) (P3 := fun Q => mm_Cl 216 (zR (40, 0, 0) :: [zI (mm_w (A (12, 0, 0) 0)), zI (mm_w (A (12, 0, 0) 1)), zI (A (12, 0, 0) 2)]) (mm_z B dm nx ns) (fun r h => (fun r h Q => ∃ y, r = zI y ∧ (∃ g dg, h = mm_z g dg nx ns) ∧ mm_Wp 292 (mm_blk 292 10) [zR (40, 0, 0), u1, u2, zI 3, u4, zI 3, u6, u7] [zL y] h (fun r h => KM r h Q)) r h Q)) (fun Q q => ?_) (fun Q q => ?_) ?_
  · rw [r_78_e (htx1 := ⟨by omega, by omega⟩) (hx := hx)]
    refine ⟨by omega, ?_⟩
    rw [show mm_sw 2 (mm_ro (94, 0, 0) 3) = 6 by decide]
    rw [r_78_6 (hx := hx)]
    rcases t2 with t | t
    · rw [if_neg (by rw [t]; decide), r_78_8 (hx := hx)]
      rw [t] at q
      refine mm_Clm (fun r h3 => ?_) q
      rintro ⟨y, rfl, ⟨g, dg, rfl⟩, q2⟩
      rw [mm_pI, r_78_8_1 (hx := hx)]
      exact q2
    · rw [if_pos (by rw [t]; decide), r_78_8 (hx := hx)]
      rw [t] at q
      refine mm_Clm (fun r h3 => ?_) q
      rintro ⟨y, rfl, ⟨g, dg, rfl⟩, q2⟩
      rw [mm_pI, r_78_8_1 (hx := hx)]
      exact q2
  · rw [r_292_6_5 (hy := hy), if_pos rfl]
    rw [if_pos (by omega)]
    rw [r_284_e (hy := hy), show mm_sw 6 3 = 6 by decide]
    rw [r_284_6 (hy := hy), ← e0, ← e1, ← e2]
    rcases t2 with t | t
    · rw [if_neg (by rw [t]; decide), r_284_8 (hy := hy)]
      rw [t] at q
      refine mm_Clm (fun r h3 => ?_) q
      rintro ⟨y, rfl, ⟨g, dg, rfl⟩, q2⟩
      rw [mm_pI, r_284_8_1 (hy := hy), mm_pL, r_292_7_6 (hy := hy)]
      exact q2
    · rw [if_pos (by rw [t]; decide), r_284_8 (hy := hy)]
      rw [t] at q
      refine mm_Clm (fun r h3 => ?_) q
      rintro ⟨y, rfl, ⟨g, dg, rfl⟩, q2⟩
      rw [mm_pI, r_284_8_1 (hy := hy), mm_pL, r_292_7_6 (hy := hy)]
      exact q2
  · refine kk_callJ (a := [zI (mm_w (A (12, 0, 0) 0)), zI (mm_w (A (12, 0, 0) 1)), zI (A (12, 0, 0) 2)]) (KC := fun r h Q => ∃ y, r = zI y ∧ (∃ g dg, h = mm_z g dg nx ns) ∧ KC (zL y) h Q) (KM := fun r h Q => ∃ y, r = zI y ∧ (∃ g dg, h = mm_z g dg nx ns) ∧ mm_Wp 292 (mm_blk 292 10) [zR (40, 0, 0), u1, u2, zI 3, u4, zI 3, u6, u7] [zL y] h (fun r h => KM r h Q)) hy l (by simp) (c_4 (hy := hy) (hc := l.1) (hb := hb) (ht := kk_wr) (hn := kk_wr) (hk := by omega)) (fun r A2 d2 B2 sr l2 sA sB => ?_)
    obtain ⟨y, er, y0, y1⟩ := sr
    exact kk_J2 (fun Q q => ⟨y, er, ⟨A2, d2, rfl⟩, q⟩) (fun Q q => ⟨y, er, ⟨B2, dm, rfl⟩, q⟩) (K y A2 d2 B2 u6 u7 ⟨by omega, by omega⟩ l2 (sA _ _ (by simp [kk_scr]) (by decide)))
/-- linked -/
theorem kk_do4 (hy : 5306 ≤ nx) {u1 u2 u4 u6 u7 : mm_V} (l : kk_L b z n A B d) (hb : b + 1 ≤ 1000000) (gv : kk_gv 4 3 A B)
    (K : ∀ v A2 d2 B2 v6 v7, (-9223372036854775808 ≤ v ∧ v < 9223372036854775808) → kk_L (b + 1) z n A2 B2 d2 → A2 (8, 0, 0) 10 = A (8, 0, 0) 10 → kk_J nx ns dm G (fun Q => KC (zL v) (mm_z A2 d2 nx ns) Q) (fun Q => mm_Wp 292 (mm_blk 292 10) [zR (40, 0, 0), u1, u2, zI 4, u4, zI 3, v6, v7] [zL v] (mm_z B2 dm nx ns) (fun r h => KM r h Q))) :
    kk_J nx ns dm G (fun Q => mm_Cl 78 [zR (1, 0, 0), zR (92, 4, 0), zR (12, 0, 0)] (mm_z A d nx ns) (fun r h => KC r h Q)) (fun Q => mm_Wp 292 (bk_292_6.drop 5) [zR (40, 0, 0), u1, u2, zI 4, u4, zI 3, u6, u7] [zI 0] (mm_z B dm nx ns) (fun r h => KM r h Q)) := by
  have hx : 5275 ≤ nx := by omega
  obtain ⟨e0, r0, k0⟩ := gv 0 (by omega) (by omega)
  obtain ⟨e1, r1, k1⟩ := gv 1 (by omega) (by omega)
  obtain ⟨e2, r2, k2⟩ := gv 2 (by omega) (by omega)
  refine kk_J2 (P1 := fun Q => mm_Cl 5 (zR (1, 0, 0) :: [zI (mm_w (A (12, 0, 0) 0)), zI (mm_w (A (12, 0, 0) 1)), zI (mm_w (A (12, 0, 0) 2))]) (mm_z A d nx ns) (fun r h => (fun r h Q => ∃ y, r = zI y ∧ (∃ g dg, h = mm_z g dg nx ns) ∧ KC (zL y) h Q) r h Q)) (P3 := fun Q => mm_Cl 217 (zR (40, 0, 0) :: [zI (mm_w (A (12, 0, 0) 0)), zI (mm_w (A (12, 0, 0) 1)), zI (mm_w (A (12, 0, 0) 2))]) (mm_z B dm nx ns) (fun r h => (fun r h Q => ∃ y, r = zI y ∧ (∃ g dg, h = mm_z g dg nx ns) ∧ mm_Wp 292 (mm_blk 292 10) [zR (40, 0, 0), u1, u2, zI 4, u4, zI 3, u6, u7] [zL y] h (fun r h => KM r h Q)) r h Q)) (fun Q q => ?_) (fun Q q => ?_) ?_
  · rw [r_78_e (htx1 := ⟨by omega, by omega⟩) (hx := hx)]
    refine ⟨by omega, ?_⟩
    rw [show mm_sw 2 (mm_ro (94, 0, 0) 4) = 9 by decide]
    rw [r_78_9 (hx := hx)]
    refine mm_Clm (fun r h3 => ?_) q
    rintro ⟨y, rfl, ⟨g, dg, rfl⟩, q2⟩
    rw [mm_pI, r_78_9_5 (hx := hx)]
    exact q2
  · rw [r_292_6_5 (hy := hy), if_pos rfl]
    rw [if_pos (by omega)]
    rw [r_284_e (hy := hy), show mm_sw 6 4 = 9 by decide]
    rw [r_284_9 (hy := hy), ← e0, ← e1, ← e2]
    refine mm_Clm (fun r h3 => ?_) q
    rintro ⟨y, rfl, ⟨g, dg, rfl⟩, q2⟩
    rw [mm_pI, r_284_9_17 (hy := hy), mm_pL, r_292_7_6 (hy := hy)]
    exact q2
  · refine kk_callJ (a := [zI (mm_w (A (12, 0, 0) 0)), zI (mm_w (A (12, 0, 0) 1)), zI (mm_w (A (12, 0, 0) 2))]) (KC := fun r h Q => ∃ y, r = zI y ∧ (∃ g dg, h = mm_z g dg nx ns) ∧ KC (zL y) h Q) (KM := fun r h Q => ∃ y, r = zI y ∧ (∃ g dg, h = mm_z g dg nx ns) ∧ mm_Wp 292 (mm_blk 292 10) [zR (40, 0, 0), u1, u2, zI 4, u4, zI 3, u6, u7] [zL y] h (fun r h => KM r h Q)) hy l (by simp) (c_5 (hy := hy) (hc := l.1) (hb := hb) (ht := kk_wr) (hn := kk_wr) (hk := kk_wr)) (fun r A2 d2 B2 sr l2 sA sB => ?_)
    obtain ⟨y, er, y0, y1⟩ := sr
    exact kk_J2 (fun Q q => ⟨y, er, ⟨A2, d2, rfl⟩, q⟩) (fun Q q => ⟨y, er, ⟨B2, dm, rfl⟩, q⟩) (K y A2 d2 B2 u6 u7 ⟨by omega, by omega⟩ l2 (sA _ _ (by simp [kk_scr]) (by decide)))
/-- find -/
theorem kk_do5 (hy : 5306 ≤ nx) {u1 u2 u4 u6 u7 : mm_V} (l : kk_L b z n A B d) (hb : b + 1 ≤ 1000000) (gv : kk_gv 5 3 A B)
    (K : ∀ v A2 d2 B2 v6 v7, (-9223372036854775808 ≤ v ∧ v < 9223372036854775808) → kk_L (b + 1) z n A2 B2 d2 → A2 (8, 0, 0) 10 = A (8, 0, 0) 10 → kk_J nx ns dm G (fun Q => KC (zL v) (mm_z A2 d2 nx ns) Q) (fun Q => mm_Wp 292 (mm_blk 292 10) [zR (40, 0, 0), u1, u2, zI 5, u4, zI 3, v6, v7] [zL v] (mm_z B2 dm nx ns) (fun r h => KM r h Q))) :
    kk_J nx ns dm G (fun Q => mm_Cl 78 [zR (1, 0, 0), zR (92, 5, 0), zR (12, 0, 0)] (mm_z A d nx ns) (fun r h => KC r h Q)) (fun Q => mm_Wp 292 (bk_292_6.drop 5) [zR (40, 0, 0), u1, u2, zI 5, u4, zI 3, u6, u7] [zI 0] (mm_z B dm nx ns) (fun r h => KM r h Q)) := by
  have hx : 5275 ≤ nx := by omega
  obtain ⟨e0, r0, k0⟩ := gv 0 (by omega) (by omega)
  obtain ⟨e1, r1, k1⟩ := gv 1 (by omega) (by omega)
  obtain ⟨e2, r2, k2⟩ := gv 2 (by omega) (by omega)
  refine kk_J2 (P1 := fun Q => mm_Cl 6 (zR (1, 0, 0) :: [zI (mm_w (A (12, 0, 0) 0)), zI (mm_w (A (12, 0, 0) 1)), zI (mm_w (A (12, 0, 0) 2))]) (mm_z A d nx ns) (fun r h => (fun r h Q => ∃ y, r = zI y ∧ (∃ g dg, h = mm_z g dg nx ns) ∧ KC (zL y) h Q) r h Q)) (P3 := fun Q => mm_Cl 218 (zR (40, 0, 0) :: [zI (mm_w (A (12, 0, 0) 0)), zI (mm_w (A (12, 0, 0) 1)), zI (mm_w (A (12, 0, 0) 2))]) (mm_z B dm nx ns) (fun r h => (fun r h Q => ∃ y, r = zI y ∧ (∃ g dg, h = mm_z g dg nx ns) ∧ mm_Wp 292 (mm_blk 292 10) [zR (40, 0, 0), u1, u2, zI 5, u4, zI 3, u6, u7] [zL y] h (fun r h => KM r h Q)) r h Q)) (fun Q q => ?_) (fun Q q => ?_) ?_
  · rw [r_78_e (htx1 := ⟨by omega, by omega⟩) (hx := hx)]
    refine ⟨by omega, ?_⟩
    rw [show mm_sw 2 (mm_ro (94, 0, 0) 5) = 10 by decide]
    rw [r_78_10 (hx := hx)]
    refine mm_Clm (fun r h3 => ?_) q
    rintro ⟨y, rfl, ⟨g, dg, rfl⟩, q2⟩
    rw [mm_pI, r_78_10_5 (hx := hx)]
    exact q2
  · rw [r_292_6_5 (hy := hy), if_pos rfl]
    rw [if_pos (by omega)]
    rw [r_284_e (hy := hy), show mm_sw 6 5 = 10 by decide]
    rw [r_284_10 (hy := hy), ← e0, ← e1, ← e2]
    refine mm_Clm (fun r h3 => ?_) q
    rintro ⟨y, rfl, ⟨g, dg, rfl⟩, q2⟩
    rw [mm_pI, r_284_10_17 (hy := hy), mm_pL, r_292_7_6 (hy := hy)]
    exact q2
  · refine kk_callJ (a := [zI (mm_w (A (12, 0, 0) 0)), zI (mm_w (A (12, 0, 0) 1)), zI (mm_w (A (12, 0, 0) 2))]) (KC := fun r h Q => ∃ y, r = zI y ∧ (∃ g dg, h = mm_z g dg nx ns) ∧ KC (zL y) h Q) (KM := fun r h Q => ∃ y, r = zI y ∧ (∃ g dg, h = mm_z g dg nx ns) ∧ mm_Wp 292 (mm_blk 292 10) [zR (40, 0, 0), u1, u2, zI 5, u4, zI 3, u6, u7] [zL y] h (fun r h => KM r h Q)) hy l (by simp) (c_6 (hy := hy) (hc := l.1) (hb := hb) (ht := kk_wr) (hn := kk_wr) (hk := kk_wr)) (fun r A2 d2 B2 sr l2 sA sB => ?_)
    obtain ⟨y, er, y0, y1⟩ := sr
    exact kk_J2 (fun Q q => ⟨y, er, ⟨A2, d2, rfl⟩, q⟩) (fun Q q => ⟨y, er, ⟨B2, dm, rfl⟩, q⟩) (K y A2 d2 B2 u6 u7 ⟨by omega, by omega⟩ l2 (sA _ _ (by simp [kk_scr]) (by decide)))
/-- write -/
theorem kk_do6 (hy : 5306 ≤ nx) {u1 u2 u4 u6 u7 : mm_V} (l : kk_L b z n A B d) (hb : b + 1 ≤ 1000000) (gv : kk_gv 6 5 A B)
    (K : ∀ v A2 d2 B2 v6 v7, (-9223372036854775808 ≤ v ∧ v < 9223372036854775808) → kk_L (b + 1) z n A2 B2 d2 → A2 (8, 0, 0) 10 = A (8, 0, 0) 10 → kk_J nx ns dm G (fun Q => KC (zL v) (mm_z A2 d2 nx ns) Q) (fun Q => mm_Wp 292 (mm_blk 292 10) [zR (40, 0, 0), u1, u2, zI 6, u4, zI 5, v6, v7] [zL v] (mm_z B2 dm nx ns) (fun r h => KM r h Q))) :
    kk_J nx ns dm G (fun Q => mm_Cl 78 [zR (1, 0, 0), zR (92, 6, 0), zR (12, 0, 0)] (mm_z A d nx ns) (fun r h => KC r h Q)) (fun Q => mm_Wp 292 (bk_292_6.drop 5) [zR (40, 0, 0), u1, u2, zI 6, u4, zI 5, u6, u7] [zI 0] (mm_z B dm nx ns) (fun r h => KM r h Q)) := by
  have hx : 5275 ≤ nx := by omega
  obtain ⟨e0, r0, k0⟩ := gv 0 (by omega) (by omega)
  obtain ⟨e1, r1, k1⟩ := gv 1 (by omega) (by omega)
  obtain ⟨e2, r2, k2⟩ := gv 2 (by omega) (by omega)
  obtain ⟨e3, r3, k3⟩ := gv 3 (by omega) (by omega)
  obtain ⟨e4, r4, k4⟩ := gv 4 (by omega) (by omega)
  refine kk_J2 (P1 := fun Q => mm_Cl 7 (zR (1, 0, 0) :: [zI (mm_w (A (12, 0, 0) 0)), zI (mm_w (A (12, 0, 0) 1)), zI (mm_w (A (12, 0, 0) 2)), zL (A (12, 0, 0) 3), zI (mm_w (A (12, 0, 0) 4))]) (mm_z A d nx ns) (fun r h => (fun r h Q => ∃ y, r = zI y ∧ (∃ g dg, h = mm_z g dg nx ns) ∧ KC (zL y) h Q) r h Q)) (P3 := fun Q => mm_Cl 220 (zR (40, 0, 0) :: [zI (mm_w (A (12, 0, 0) 0)), zI (mm_w (A (12, 0, 0) 1)), zI (mm_w (A (12, 0, 0) 2)), zL (A (12, 0, 0) 3), zI (mm_w (A (12, 0, 0) 4))]) (mm_z B dm nx ns) (fun r h => (fun r h Q => ∃ y, r = zI y ∧ (∃ g dg, h = mm_z g dg nx ns) ∧ mm_Wp 292 (mm_blk 292 10) [zR (40, 0, 0), u1, u2, zI 6, u4, zI 5, u6, u7] [zL y] h (fun r h => KM r h Q)) r h Q)) (fun Q q => ?_) (fun Q q => ?_) ?_
  · rw [r_78_e (htx1 := ⟨by omega, by omega⟩) (hx := hx)]
    refine ⟨by omega, ?_⟩
    rw [show mm_sw 2 (mm_ro (94, 0, 0) 6) = 11 by decide]
    rw [r_78_11 (hx := hx)]
    refine mm_Clm (fun r h3 => ?_) q
    rintro ⟨y, rfl, ⟨g, dg, rfl⟩, q2⟩
    rw [mm_pI, r_78_11_9 (hx := hx)]
    exact q2
  · rw [r_292_6_5 (hy := hy), if_pos rfl]
    rw [if_pos (by omega)]
    rw [r_284_e (hy := hy), show mm_sw 6 6 = 11 by decide]
    rw [r_284_11 (hy := hy), ← e0, ← e1, ← e2, ← e3, ← e4]
    refine mm_Clm (fun r h3 => ?_) q
    rintro ⟨y, rfl, ⟨g, dg, rfl⟩, q2⟩
    rw [mm_pI, r_284_11_26 (hy := hy), mm_pL, r_292_7_6 (hy := hy)]
    exact q2
  · refine kk_callJ (a := [zI (mm_w (A (12, 0, 0) 0)), zI (mm_w (A (12, 0, 0) 1)), zI (mm_w (A (12, 0, 0) 2)), zL (A (12, 0, 0) 3), zI (mm_w (A (12, 0, 0) 4))]) (KC := fun r h Q => ∃ y, r = zI y ∧ (∃ g dg, h = mm_z g dg nx ns) ∧ KC (zL y) h Q) (KM := fun r h Q => ∃ y, r = zI y ∧ (∃ g dg, h = mm_z g dg nx ns) ∧ mm_Wp 292 (mm_blk 292 10) [zR (40, 0, 0), u1, u2, zI 6, u4, zI 5, u6, u7] [zL y] h (fun r h => KM r h Q)) hy l (by simp) (c_7 (hy := hy) (hc := l.1) (hb := hb) (ht := kk_wr) (hn := kk_wr) (hk := kk_wr) (hl := r3) (hm := kk_wr)) (fun r A2 d2 B2 sr l2 sA sB => ?_)
    obtain ⟨y, er, y0, y1⟩ := sr
    exact kk_J2 (fun Q q => ⟨y, er, ⟨A2, d2, rfl⟩, q⟩) (fun Q q => ⟨y, er, ⟨B2, dm, rfl⟩, q⟩) (K y A2 d2 B2 u6 u7 ⟨by omega, by omega⟩ l2 (sA _ _ (by simp [kk_scr]) (by decide)))
/-- read -/
theorem kk_do7 (hy : 5306 ≤ nx) {u1 u2 u4 u6 u7 : mm_V} (l : kk_L b z n A B d) (hb : b + 1 ≤ 1000000) (gv : kk_gv 7 3 A B)
    (K : ∀ v A2 d2 B2 v6 v7, (-9223372036854775808 ≤ v ∧ v < 9223372036854775808) → kk_L (b + 1) z n A2 B2 d2 → A2 (8, 0, 0) 10 = A (8, 0, 0) 10 → kk_J nx ns dm G (fun Q => KC (zL v) (mm_z A2 d2 nx ns) Q) (fun Q => mm_Wp 292 (mm_blk 292 10) [zR (40, 0, 0), u1, u2, zI 7, u4, zI 3, v6, v7] [zL v] (mm_z B2 dm nx ns) (fun r h => KM r h Q))) :
    kk_J nx ns dm G (fun Q => mm_Cl 78 [zR (1, 0, 0), zR (92, 7, 0), zR (12, 0, 0)] (mm_z A d nx ns) (fun r h => KC r h Q)) (fun Q => mm_Wp 292 (bk_292_6.drop 5) [zR (40, 0, 0), u1, u2, zI 7, u4, zI 3, u6, u7] [zI 0] (mm_z B dm nx ns) (fun r h => KM r h Q)) := by
  have hx : 5275 ≤ nx := by omega
  obtain ⟨e0, r0, k0⟩ := gv 0 (by omega) (by omega)
  obtain ⟨e1, r1, k1⟩ := gv 1 (by omega) (by omega)
  obtain ⟨e2, r2, k2⟩ := gv 2 (by omega) (by omega)
  refine kk_J2 (P1 := fun Q => mm_Cl 8 (zR (1, 0, 0) :: [zI (mm_w (A (12, 0, 0) 0)), zI (mm_w (A (12, 0, 0) 1)), zI (mm_w (A (12, 0, 0) 2))]) (mm_z A d nx ns) (fun r h => (fun r h Q => ∃ y, r = zI y ∧ (∃ g dg, h = mm_z g dg nx ns) ∧ KC (zL y) h Q) r h Q)) (P3 := fun Q => mm_Cl 221 (zR (40, 0, 0) :: [zI (mm_w (A (12, 0, 0) 0)), zI (mm_w (A (12, 0, 0) 1)), zI (mm_w (A (12, 0, 0) 2))]) (mm_z B dm nx ns) (fun r h => (fun r h Q => ∃ y, r = zI y ∧ (∃ g dg, h = mm_z g dg nx ns) ∧ mm_Wp 292 (mm_blk 292 10) [zR (40, 0, 0), u1, u2, zI 7, u4, zI 3, u6, u7] [zL y] h (fun r h => KM r h Q)) r h Q)) (fun Q q => ?_) (fun Q q => ?_) ?_
  · rw [r_78_e (htx1 := ⟨by omega, by omega⟩) (hx := hx)]
    refine ⟨by omega, ?_⟩
    rw [show mm_sw 2 (mm_ro (94, 0, 0) 7) = 12 by decide]
    rw [r_78_12 (hx := hx)]
    refine mm_Clm (fun r h3 => ?_) q
    rintro ⟨y, rfl, ⟨g, dg, rfl⟩, q2⟩
    rw [mm_pI, r_78_12_5 (hx := hx)]
    exact q2
  · rw [r_292_6_5 (hy := hy), if_pos rfl]
    rw [if_pos (by omega)]
    rw [r_284_e (hy := hy), show mm_sw 6 7 = 12 by decide]
    rw [r_284_12 (hy := hy), ← e0, ← e1, ← e2]
    refine mm_Clm (fun r h3 => ?_) q
    rintro ⟨y, rfl, ⟨g, dg, rfl⟩, q2⟩
    rw [mm_pI, r_284_12_17 (hy := hy), mm_pL, r_292_7_6 (hy := hy)]
    exact q2
  · refine kk_callJ (a := [zI (mm_w (A (12, 0, 0) 0)), zI (mm_w (A (12, 0, 0) 1)), zI (mm_w (A (12, 0, 0) 2))]) (KC := fun r h Q => ∃ y, r = zI y ∧ (∃ g dg, h = mm_z g dg nx ns) ∧ KC (zL y) h Q) (KM := fun r h Q => ∃ y, r = zI y ∧ (∃ g dg, h = mm_z g dg nx ns) ∧ mm_Wp 292 (mm_blk 292 10) [zR (40, 0, 0), u1, u2, zI 7, u4, zI 3, u6, u7] [zL y] h (fun r h => KM r h Q)) hy l (by simp) (c_8 (hy := hy) (hc := l.1) (hb := hb) (ht := kk_wr) (hn := kk_wr) (hk := kk_wr)) (fun r A2 d2 B2 sr l2 sA sB => ?_)
    obtain ⟨y, er, y0, y1⟩ := sr
    exact kk_J2 (fun Q q => ⟨y, er, ⟨A2, d2, rfl⟩, q⟩) (fun Q q => ⟨y, er, ⟨B2, dm, rfl⟩, q⟩) (K y A2 d2 B2 u6 u7 ⟨by omega, by omega⟩ l2 (sA _ _ (by simp [kk_scr]) (by decide)))
/-- cut -/
theorem kk_do8 (hy : 5306 ≤ nx) {u1 u2 u4 u6 u7 : mm_V} (l : kk_L b z n A B d) (hb : b + 1 ≤ 1000000) (gv : kk_gv 8 3 A B)
    (K : ∀ v A2 d2 B2 v6 v7, (-9223372036854775808 ≤ v ∧ v < 9223372036854775808) → kk_L (b + 1) z n A2 B2 d2 → A2 (8, 0, 0) 10 = A (8, 0, 0) 10 → kk_J nx ns dm G (fun Q => KC (zL v) (mm_z A2 d2 nx ns) Q) (fun Q => mm_Wp 292 (mm_blk 292 10) [zR (40, 0, 0), u1, u2, zI 8, u4, zI 3, v6, v7] [zL v] (mm_z B2 dm nx ns) (fun r h => KM r h Q))) :
    kk_J nx ns dm G (fun Q => mm_Cl 78 [zR (1, 0, 0), zR (92, 8, 0), zR (12, 0, 0)] (mm_z A d nx ns) (fun r h => KC r h Q)) (fun Q => mm_Wp 292 (bk_292_6.drop 5) [zR (40, 0, 0), u1, u2, zI 8, u4, zI 3, u6, u7] [zI 0] (mm_z B dm nx ns) (fun r h => KM r h Q)) := by
  have hx : 5275 ≤ nx := by omega
  obtain ⟨e0, r0, k0⟩ := gv 0 (by omega) (by omega)
  obtain ⟨e1, r1, k1⟩ := gv 1 (by omega) (by omega)
  obtain ⟨e2, r2, k2⟩ := gv 2 (by omega) (by omega)
  refine kk_J2 (P1 := fun Q => mm_Cl 9 (zR (1, 0, 0) :: [zI (mm_w (A (12, 0, 0) 0)), zI (mm_w (A (12, 0, 0) 1)), zI (mm_w (A (12, 0, 0) 2))]) (mm_z A d nx ns) (fun r h => (fun r h Q => ∃ y, r = zI y ∧ (∃ g dg, h = mm_z g dg nx ns) ∧ KC (zL y) h Q) r h Q)) (P3 := fun Q => mm_Cl 222 (zR (40, 0, 0) :: [zI (mm_w (A (12, 0, 0) 0)), zI (mm_w (A (12, 0, 0) 1)), zI (mm_w (A (12, 0, 0) 2))]) (mm_z B dm nx ns) (fun r h => (fun r h Q => ∃ y, r = zI y ∧ (∃ g dg, h = mm_z g dg nx ns) ∧ mm_Wp 292 (mm_blk 292 10) [zR (40, 0, 0), u1, u2, zI 8, u4, zI 3, u6, u7] [zL y] h (fun r h => KM r h Q)) r h Q)) (fun Q q => ?_) (fun Q q => ?_) ?_
  · rw [r_78_e (htx1 := ⟨by omega, by omega⟩) (hx := hx)]
    refine ⟨by omega, ?_⟩
    rw [show mm_sw 2 (mm_ro (94, 0, 0) 8) = 13 by decide]
    rw [r_78_13 (hx := hx)]
    refine mm_Clm (fun r h3 => ?_) q
    rintro ⟨y, rfl, ⟨g, dg, rfl⟩, q2⟩
    rw [mm_pI, r_78_13_5 (hx := hx)]
    exact q2
  · rw [r_292_6_5 (hy := hy), if_pos rfl]
    rw [if_pos (by omega)]
    rw [r_284_e (hy := hy), show mm_sw 6 8 = 13 by decide]
    rw [r_284_13 (hy := hy), ← e0, ← e1, ← e2]
    refine mm_Clm (fun r h3 => ?_) q
    rintro ⟨y, rfl, ⟨g, dg, rfl⟩, q2⟩
    rw [mm_pI, r_284_13_17 (hy := hy), mm_pL, r_292_7_6 (hy := hy)]
    exact q2
  · refine kk_callJ (a := [zI (mm_w (A (12, 0, 0) 0)), zI (mm_w (A (12, 0, 0) 1)), zI (mm_w (A (12, 0, 0) 2))]) (KC := fun r h Q => ∃ y, r = zI y ∧ (∃ g dg, h = mm_z g dg nx ns) ∧ KC (zL y) h Q) (KM := fun r h Q => ∃ y, r = zI y ∧ (∃ g dg, h = mm_z g dg nx ns) ∧ mm_Wp 292 (mm_blk 292 10) [zR (40, 0, 0), u1, u2, zI 8, u4, zI 3, u6, u7] [zL y] h (fun r h => KM r h Q)) hy l (by simp) (c_9 (hy := hy) (hc := l.1) (hb := hb) (ht := kk_wr) (hn := kk_wr) (hk := kk_wr)) (fun r A2 d2 B2 sr l2 sA sB => ?_)
    obtain ⟨y, er, y0, y1⟩ := sr
    exact kk_J2 (fun Q q => ⟨y, er, ⟨A2, d2, rfl⟩, q⟩) (fun Q q => ⟨y, er, ⟨B2, dm, rfl⟩, q⟩) (K y A2 d2 B2 u6 u7 ⟨by omega, by omega⟩ l2 (sA _ _ (by simp [kk_scr]) (by decide)))
/-- link -/
theorem kk_do9 (hy : 5306 ≤ nx) {u1 u2 u4 u6 u7 : mm_V} (l : kk_L b z n A B d) (hb : b + 1 ≤ 1000000) (gv : kk_gv 9 4 A B)
    (K : ∀ v A2 d2 B2 v6 v7, (-9223372036854775808 ≤ v ∧ v < 9223372036854775808) → kk_L (b + 1) z n A2 B2 d2 → A2 (8, 0, 0) 10 = A (8, 0, 0) 10 → kk_J nx ns dm G (fun Q => KC (zL v) (mm_z A2 d2 nx ns) Q) (fun Q => mm_Wp 292 (mm_blk 292 10) [zR (40, 0, 0), u1, u2, zI 9, u4, zI 4, v6, v7] [zL v] (mm_z B2 dm nx ns) (fun r h => KM r h Q))) :
    kk_J nx ns dm G (fun Q => mm_Cl 78 [zR (1, 0, 0), zR (92, 9, 0), zR (12, 0, 0)] (mm_z A d nx ns) (fun r h => KC r h Q)) (fun Q => mm_Wp 292 (bk_292_6.drop 5) [zR (40, 0, 0), u1, u2, zI 9, u4, zI 4, u6, u7] [zI 0] (mm_z B dm nx ns) (fun r h => KM r h Q)) := by
  have hx : 5275 ≤ nx := by omega
  obtain ⟨e0, r0, k0⟩ := gv 0 (by omega) (by omega)
  obtain ⟨e1, r1, k1⟩ := gv 1 (by omega) (by omega)
  obtain ⟨e2, r2, k2⟩ := gv 2 (by omega) (by omega)
  obtain ⟨e3, r3, k3⟩ := gv 3 (by omega) (by omega)
  refine kk_J2 (P1 := fun Q => mm_Cl 10 (zR (1, 0, 0) :: [zI (mm_w (A (12, 0, 0) 0)), zI (mm_w (A (12, 0, 0) 1)), zI (mm_w (A (12, 0, 0) 2)), zI (mm_w (A (12, 0, 0) 3))]) (mm_z A d nx ns) (fun r h => (fun r h Q => ∃ y, r = zI y ∧ (∃ g dg, h = mm_z g dg nx ns) ∧ KC (zL y) h Q) r h Q)) (P3 := fun Q => mm_Cl 223 (zR (40, 0, 0) :: [zI (mm_w (A (12, 0, 0) 0)), zI (mm_w (A (12, 0, 0) 1)), zI (mm_w (A (12, 0, 0) 2)), zI (mm_w (A (12, 0, 0) 3))]) (mm_z B dm nx ns) (fun r h => (fun r h Q => ∃ y, r = zI y ∧ (∃ g dg, h = mm_z g dg nx ns) ∧ mm_Wp 292 (mm_blk 292 10) [zR (40, 0, 0), u1, u2, zI 9, u4, zI 4, u6, u7] [zL y] h (fun r h => KM r h Q)) r h Q)) (fun Q q => ?_) (fun Q q => ?_) ?_
  · rw [r_78_e (htx1 := ⟨by omega, by omega⟩) (hx := hx)]
    refine ⟨by omega, ?_⟩
    rw [show mm_sw 2 (mm_ro (94, 0, 0) 9) = 14 by decide]
    rw [r_78_14 (hx := hx)]
    refine mm_Clm (fun r h3 => ?_) q
    rintro ⟨y, rfl, ⟨g, dg, rfl⟩, q2⟩
    rw [mm_pI, r_78_14_6 (hx := hx)]
    exact q2
  · rw [r_292_6_5 (hy := hy), if_pos rfl]
    rw [if_pos (by omega)]
    rw [r_284_e (hy := hy), show mm_sw 6 9 = 14 by decide]
    rw [r_284_14 (hy := hy), ← e0, ← e1, ← e2, ← e3]
    refine mm_Clm (fun r h3 => ?_) q
    rintro ⟨y, rfl, ⟨g, dg, rfl⟩, q2⟩
    rw [mm_pI, r_284_14_22 (hy := hy), mm_pL, r_292_7_6 (hy := hy)]
    exact q2
  · refine kk_callJ (a := [zI (mm_w (A (12, 0, 0) 0)), zI (mm_w (A (12, 0, 0) 1)), zI (mm_w (A (12, 0, 0) 2)), zI (mm_w (A (12, 0, 0) 3))]) (KC := fun r h Q => ∃ y, r = zI y ∧ (∃ g dg, h = mm_z g dg nx ns) ∧ KC (zL y) h Q) (KM := fun r h Q => ∃ y, r = zI y ∧ (∃ g dg, h = mm_z g dg nx ns) ∧ mm_Wp 292 (mm_blk 292 10) [zR (40, 0, 0), u1, u2, zI 9, u4, zI 4, u6, u7] [zL y] h (fun r h => KM r h Q)) hy l (by simp) (c_10 (hy := hy) (hc := l.1) (hb := hb) (ht := kk_wr) (hn := kk_wr) (hk := kk_wr) (hl := kk_wr)) (fun r A2 d2 B2 sr l2 sA sB => ?_)
    obtain ⟨y, er, y0, y1⟩ := sr
    exact kk_J2 (fun Q q => ⟨y, er, ⟨A2, d2, rfl⟩, q⟩) (fun Q q => ⟨y, er, ⟨B2, dm, rfl⟩, q⟩) (K y A2 d2 B2 u6 u7 ⟨by omega, by omega⟩ l2 (sA _ _ (by simp [kk_scr]) (by decide)))
/-- unlink -/
theorem kk_do10 (hy : 5306 ≤ nx) {u1 u2 u4 u6 u7 : mm_V} (l : kk_L b z n A B d) (hb : b + 1 ≤ 1000000) (gv : kk_gv 10 3 A B)
    (K : ∀ v A2 d2 B2 v6 v7, (-9223372036854775808 ≤ v ∧ v < 9223372036854775808) → kk_L (b + 1) z n A2 B2 d2 → A2 (8, 0, 0) 10 = A (8, 0, 0) 10 → kk_J nx ns dm G (fun Q => KC (zL v) (mm_z A2 d2 nx ns) Q) (fun Q => mm_Wp 292 (mm_blk 292 10) [zR (40, 0, 0), u1, u2, zI 10, u4, zI 3, v6, v7] [zL v] (mm_z B2 dm nx ns) (fun r h => KM r h Q))) :
    kk_J nx ns dm G (fun Q => mm_Cl 78 [zR (1, 0, 0), zR (92, 10, 0), zR (12, 0, 0)] (mm_z A d nx ns) (fun r h => KC r h Q)) (fun Q => mm_Wp 292 (bk_292_6.drop 5) [zR (40, 0, 0), u1, u2, zI 10, u4, zI 3, u6, u7] [zI 0] (mm_z B dm nx ns) (fun r h => KM r h Q)) := by
  have hx : 5275 ≤ nx := by omega
  obtain ⟨e0, r0, k0⟩ := gv 0 (by omega) (by omega)
  obtain ⟨e1, r1, k1⟩ := gv 1 (by omega) (by omega)
  obtain ⟨e2, r2, k2⟩ := gv 2 (by omega) (by omega)
  refine kk_J2 (P1 := fun Q => mm_Cl 11 (zR (1, 0, 0) :: [zI (mm_w (A (12, 0, 0) 0)), zI (mm_w (A (12, 0, 0) 1)), zI (mm_w (A (12, 0, 0) 2))]) (mm_z A d nx ns) (fun r h => (fun r h Q => ∃ y, r = zI y ∧ (∃ g dg, h = mm_z g dg nx ns) ∧ KC (zL y) h Q) r h Q)) (P3 := fun Q => mm_Cl 225 (zR (40, 0, 0) :: [zI (mm_w (A (12, 0, 0) 0)), zI (mm_w (A (12, 0, 0) 1)), zI (mm_w (A (12, 0, 0) 2))]) (mm_z B dm nx ns) (fun r h => (fun r h Q => ∃ y, r = zI y ∧ (∃ g dg, h = mm_z g dg nx ns) ∧ mm_Wp 292 (mm_blk 292 10) [zR (40, 0, 0), u1, u2, zI 10, u4, zI 3, u6, u7] [zL y] h (fun r h => KM r h Q)) r h Q)) (fun Q q => ?_) (fun Q q => ?_) ?_
  · rw [r_78_e (htx1 := ⟨by omega, by omega⟩) (hx := hx)]
    refine ⟨by omega, ?_⟩
    rw [show mm_sw 2 (mm_ro (94, 0, 0) 10) = 15 by decide]
    rw [r_78_15 (hx := hx)]
    refine mm_Clm (fun r h3 => ?_) q
    rintro ⟨y, rfl, ⟨g, dg, rfl⟩, q2⟩
    rw [mm_pI, r_78_15_5 (hx := hx)]
    exact q2
  · rw [r_292_6_5 (hy := hy), if_pos rfl]
    rw [if_pos (by omega)]
    rw [r_284_e (hy := hy), show mm_sw 6 10 = 15 by decide]
    rw [r_284_15 (hy := hy), ← e0, ← e1, ← e2]
    refine mm_Clm (fun r h3 => ?_) q
    rintro ⟨y, rfl, ⟨g, dg, rfl⟩, q2⟩
    rw [mm_pI, r_284_15_17 (hy := hy), mm_pL, r_292_7_6 (hy := hy)]
    exact q2
  · refine kk_callJ (a := [zI (mm_w (A (12, 0, 0) 0)), zI (mm_w (A (12, 0, 0) 1)), zI (mm_w (A (12, 0, 0) 2))]) (KC := fun r h Q => ∃ y, r = zI y ∧ (∃ g dg, h = mm_z g dg nx ns) ∧ KC (zL y) h Q) (KM := fun r h Q => ∃ y, r = zI y ∧ (∃ g dg, h = mm_z g dg nx ns) ∧ mm_Wp 292 (mm_blk 292 10) [zR (40, 0, 0), u1, u2, zI 10, u4, zI 3, u6, u7] [zL y] h (fun r h => KM r h Q)) hy l (by simp) (c_11 (hy := hy) (hc := l.1) (hb := hb) (ht := kk_wr) (hn := kk_wr) (hk := kk_wr)) (fun r A2 d2 B2 sr l2 sA sB => ?_)
    obtain ⟨y, er, y0, y1⟩ := sr
    exact kk_J2 (fun Q q => ⟨y, er, ⟨A2, d2, rfl⟩, q⟩) (fun Q q => ⟨y, er, ⟨B2, dm, rfl⟩, q⟩) (K y A2 d2 B2 u6 u7 ⟨by omega, by omega⟩ l2 (sA _ _ (by simp [kk_scr]) (by decide)))
/-- rename -/
theorem kk_do11 (hy : 5306 ≤ nx) {u1 u2 u4 u6 u7 : mm_V} (l : kk_L b z n A B d) (hb : b + 1 ≤ 1000000) (gv : kk_gv 11 5 A B)
    (K : ∀ v A2 d2 B2 v6 v7, (-9223372036854775808 ≤ v ∧ v < 9223372036854775808) → kk_L (b + 1) z n A2 B2 d2 → A2 (8, 0, 0) 10 = A (8, 0, 0) 10 → kk_J nx ns dm G (fun Q => KC (zL v) (mm_z A2 d2 nx ns) Q) (fun Q => mm_Wp 292 (mm_blk 292 10) [zR (40, 0, 0), u1, u2, zI 11, u4, zI 5, v6, v7] [zL v] (mm_z B2 dm nx ns) (fun r h => KM r h Q))) :
    kk_J nx ns dm G (fun Q => mm_Cl 78 [zR (1, 0, 0), zR (92, 11, 0), zR (12, 0, 0)] (mm_z A d nx ns) (fun r h => KC r h Q)) (fun Q => mm_Wp 292 (bk_292_6.drop 5) [zR (40, 0, 0), u1, u2, zI 11, u4, zI 5, u6, u7] [zI 0] (mm_z B dm nx ns) (fun r h => KM r h Q)) := by
  have hx : 5275 ≤ nx := by omega
  obtain ⟨e0, r0, k0⟩ := gv 0 (by omega) (by omega)
  obtain ⟨e1, r1, k1⟩ := gv 1 (by omega) (by omega)
  obtain ⟨e2, r2, k2⟩ := gv 2 (by omega) (by omega)
  obtain ⟨e3, r3, k3⟩ := gv 3 (by omega) (by omega)
  obtain ⟨e4, r4, k4⟩ := gv 4 (by omega) (by omega)
  refine kk_J2 (P1 := fun Q => mm_Cl 12 (zR (1, 0, 0) :: [zI (mm_w (A (12, 0, 0) 0)), zI (mm_w (A (12, 0, 0) 1)), zI (mm_w (A (12, 0, 0) 2)), zI (mm_w (A (12, 0, 0) 3)), zI (mm_w (A (12, 0, 0) 4))]) (mm_z A d nx ns) (fun r h => (fun r h Q => ∃ y, r = zI y ∧ (∃ g dg, h = mm_z g dg nx ns) ∧ KC (zL y) h Q) r h Q)) (P3 := fun Q => mm_Cl 227 (zR (40, 0, 0) :: [zI (mm_w (A (12, 0, 0) 0)), zI (mm_w (A (12, 0, 0) 1)), zI (mm_w (A (12, 0, 0) 2)), zI (mm_w (A (12, 0, 0) 3)), zI (mm_w (A (12, 0, 0) 4))]) (mm_z B dm nx ns) (fun r h => (fun r h Q => ∃ y, r = zI y ∧ (∃ g dg, h = mm_z g dg nx ns) ∧ mm_Wp 292 (mm_blk 292 10) [zR (40, 0, 0), u1, u2, zI 11, u4, zI 5, u6, u7] [zL y] h (fun r h => KM r h Q)) r h Q)) (fun Q q => ?_) (fun Q q => ?_) ?_
  · rw [r_78_e (htx1 := ⟨by omega, by omega⟩) (hx := hx)]
    refine ⟨by omega, ?_⟩
    rw [show mm_sw 2 (mm_ro (94, 0, 0) 11) = 16 by decide]
    rw [r_78_16 (hx := hx)]
    refine mm_Clm (fun r h3 => ?_) q
    rintro ⟨y, rfl, ⟨g, dg, rfl⟩, q2⟩
    rw [mm_pI, r_78_16_7 (hx := hx)]
    exact q2
  · rw [r_292_6_5 (hy := hy), if_pos rfl]
    rw [if_pos (by omega)]
    rw [r_284_e (hy := hy), show mm_sw 6 11 = 16 by decide]
    rw [r_284_16 (hy := hy), ← e0, ← e1, ← e2, ← e3, ← e4]
    refine mm_Clm (fun r h3 => ?_) q
    rintro ⟨y, rfl, ⟨g, dg, rfl⟩, q2⟩
    rw [mm_pI, r_284_16_27 (hy := hy), mm_pL, r_292_7_6 (hy := hy)]
    exact q2
  · refine kk_callJ (a := [zI (mm_w (A (12, 0, 0) 0)), zI (mm_w (A (12, 0, 0) 1)), zI (mm_w (A (12, 0, 0) 2)), zI (mm_w (A (12, 0, 0) 3)), zI (mm_w (A (12, 0, 0) 4))]) (KC := fun r h Q => ∃ y, r = zI y ∧ (∃ g dg, h = mm_z g dg nx ns) ∧ KC (zL y) h Q) (KM := fun r h Q => ∃ y, r = zI y ∧ (∃ g dg, h = mm_z g dg nx ns) ∧ mm_Wp 292 (mm_blk 292 10) [zR (40, 0, 0), u1, u2, zI 11, u4, zI 5, u6, u7] [zL y] h (fun r h => KM r h Q)) hy l (by simp) (c_12 (hy := hy) (hc := l.1) (hb := hb) (ht := kk_wr) (hn := kk_wr) (hl := kk_wr) (hk := kk_wr) (hq := kk_wr)) (fun r A2 d2 B2 sr l2 sA sB => ?_)
    obtain ⟨y, er, y0, y1⟩ := sr
    exact kk_J2 (fun Q q => ⟨y, er, ⟨A2, d2, rfl⟩, q⟩) (fun Q q => ⟨y, er, ⟨B2, dm, rfl⟩, q⟩) (K y A2 d2 B2 u6 u7 ⟨by omega, by omega⟩ l2 (sA _ _ (by simp [kk_scr]) (by decide)))
/-- about -/
theorem kk_do12 (hy : 5306 ≤ nx) {u1 u2 u4 u6 u7 : mm_V} (l : kk_L b z n A B d) (hb : b + 1 ≤ 1000000) (gv : kk_gv 12 3 A B)
    (K : ∀ v A2 d2 B2 v6 v7, (-9223372036854775808 ≤ v ∧ v < 9223372036854775808) → kk_L (b + 1) z n A2 B2 d2 → A2 (8, 0, 0) 10 = A (8, 0, 0) 10 → kk_J nx ns dm G (fun Q => KC (zL v) (mm_z A2 d2 nx ns) Q) (fun Q => mm_Wp 292 (mm_blk 292 10) [zR (40, 0, 0), u1, u2, zI 12, u4, zI 3, v6, v7] [zL v] (mm_z B2 dm nx ns) (fun r h => KM r h Q))) :
    kk_J nx ns dm G (fun Q => mm_Cl 78 [zR (1, 0, 0), zR (92, 12, 0), zR (12, 0, 0)] (mm_z A d nx ns) (fun r h => KC r h Q)) (fun Q => mm_Wp 292 (bk_292_6.drop 5) [zR (40, 0, 0), u1, u2, zI 12, u4, zI 3, u6, u7] [zI 0] (mm_z B dm nx ns) (fun r h => KM r h Q)) := by
  have hx : 5275 ≤ nx := by omega
  obtain ⟨e0, r0, k0⟩ := gv 0 (by omega) (by omega)
  obtain ⟨e1, r1, k1⟩ := gv 1 (by omega) (by omega)
  obtain ⟨e2, r2, k2⟩ := gv 2 (by omega) (by omega)
  refine kk_J2 (P1 := fun Q => mm_Cl 13 (zR (1, 0, 0) :: [zI (mm_w (A (12, 0, 0) 0)), zI (mm_w (A (12, 0, 0) 1)), zI (mm_w (A (12, 0, 0) 2))]) (mm_z A d nx ns) (fun r h => (fun r h Q => ∃ y, r = zI y ∧ (∃ g dg, h = mm_z g dg nx ns) ∧ KC (zL y) h Q) r h Q)) (P3 := fun Q => mm_Cl 228 (zR (40, 0, 0) :: [zI (mm_w (A (12, 0, 0) 0)), zI (mm_w (A (12, 0, 0) 1)), zI (mm_w (A (12, 0, 0) 2))]) (mm_z B dm nx ns) (fun r h => (fun r h Q => ∃ y, r = zI y ∧ (∃ g dg, h = mm_z g dg nx ns) ∧ mm_Wp 292 (mm_blk 292 10) [zR (40, 0, 0), u1, u2, zI 12, u4, zI 3, u6, u7] [zL y] h (fun r h => KM r h Q)) r h Q)) (fun Q q => ?_) (fun Q q => ?_) ?_
  · rw [r_78_e (htx1 := ⟨by omega, by omega⟩) (hx := hx)]
    refine ⟨by omega, ?_⟩
    rw [show mm_sw 2 (mm_ro (94, 0, 0) 12) = 17 by decide]
    rw [r_78_17 (hx := hx)]
    refine mm_Clm (fun r h3 => ?_) q
    rintro ⟨y, rfl, ⟨g, dg, rfl⟩, q2⟩
    rw [mm_pI, r_78_17_5 (hx := hx)]
    exact q2
  · rw [r_292_6_5 (hy := hy), if_pos rfl]
    rw [if_pos (by omega)]
    rw [r_284_e (hy := hy), show mm_sw 6 12 = 17 by decide]
    rw [r_284_17 (hy := hy), ← e0, ← e1, ← e2]
    refine mm_Clm (fun r h3 => ?_) q
    rintro ⟨y, rfl, ⟨g, dg, rfl⟩, q2⟩
    rw [mm_pI, r_284_17_17 (hy := hy), mm_pL, r_292_7_6 (hy := hy)]
    exact q2
  · refine kk_callJ (a := [zI (mm_w (A (12, 0, 0) 0)), zI (mm_w (A (12, 0, 0) 1)), zI (mm_w (A (12, 0, 0) 2))]) (KC := fun r h Q => ∃ y, r = zI y ∧ (∃ g dg, h = mm_z g dg nx ns) ∧ KC (zL y) h Q) (KM := fun r h Q => ∃ y, r = zI y ∧ (∃ g dg, h = mm_z g dg nx ns) ∧ mm_Wp 292 (mm_blk 292 10) [zR (40, 0, 0), u1, u2, zI 12, u4, zI 3, u6, u7] [zL y] h (fun r h => KM r h Q)) hy l (by simp) (c_13 (hy := hy) (hc := l.1) (hb := hb) (ht := kk_wr) (hn := kk_wr) (hk := kk_wr)) (fun r A2 d2 B2 sr l2 sA sB => ?_)
    obtain ⟨y, er, y0, y1⟩ := sr
    exact kk_J2 (fun Q q => ⟨y, er, ⟨A2, d2, rfl⟩, q⟩) (fun Q q => ⟨y, er, ⟨B2, dm, rfl⟩, q⟩) (K y A2 d2 B2 u6 u7 ⟨by omega, by omega⟩ l2 (sA _ _ (by simp [kk_scr]) (by decide)))
/-- entry -/
theorem kk_do13 (hy : 5306 ≤ nx) {u1 u2 u4 u6 u7 : mm_V} (l : kk_L b z n A B d) (hb : b + 1 ≤ 1000000) (gv : kk_gv 13 3 A B)
    (K : ∀ v A2 d2 B2 v6 v7, (-9223372036854775808 ≤ v ∧ v < 9223372036854775808) → kk_L (b + 1) z n A2 B2 d2 → A2 (8, 0, 0) 10 = A (8, 0, 0) 10 → kk_J nx ns dm G (fun Q => KC (zL v) (mm_z A2 d2 nx ns) Q) (fun Q => mm_Wp 292 (mm_blk 292 10) [zR (40, 0, 0), u1, u2, zI 13, u4, zI 3, v6, v7] [zL v] (mm_z B2 dm nx ns) (fun r h => KM r h Q))) :
    kk_J nx ns dm G (fun Q => mm_Cl 78 [zR (1, 0, 0), zR (92, 13, 0), zR (12, 0, 0)] (mm_z A d nx ns) (fun r h => KC r h Q)) (fun Q => mm_Wp 292 (bk_292_6.drop 5) [zR (40, 0, 0), u1, u2, zI 13, u4, zI 3, u6, u7] [zI 0] (mm_z B dm nx ns) (fun r h => KM r h Q)) := by
  have hx : 5275 ≤ nx := by omega
  obtain ⟨e0, r0, k0⟩ := gv 0 (by omega) (by omega)
  obtain ⟨e1, r1, k1⟩ := gv 1 (by omega) (by omega)
  obtain ⟨e2, r2, k2⟩ := gv 2 (by omega) (by omega)
  refine kk_J2 (P1 := fun Q => mm_Cl 14 (zR (1, 0, 0) :: [zI (mm_w (A (12, 0, 0) 0)), zI (mm_w (A (12, 0, 0) 1)), zI (mm_w (A (12, 0, 0) 2))]) (mm_z A d nx ns) (fun r h => (fun r h Q => ∃ y, r = zI y ∧ (∃ g dg, h = mm_z g dg nx ns) ∧ KC (zL y) h Q) r h Q)) (P3 := fun Q => mm_Cl 229 (zR (40, 0, 0) :: [zI (mm_w (A (12, 0, 0) 0)), zI (mm_w (A (12, 0, 0) 1)), zI (mm_w (A (12, 0, 0) 2))]) (mm_z B dm nx ns) (fun r h => (fun r h Q => ∃ y, r = zI y ∧ (∃ g dg, h = mm_z g dg nx ns) ∧ mm_Wp 292 (mm_blk 292 10) [zR (40, 0, 0), u1, u2, zI 13, u4, zI 3, u6, u7] [zL y] h (fun r h => KM r h Q)) r h Q)) (fun Q q => ?_) (fun Q q => ?_) ?_
  · rw [r_78_e (htx1 := ⟨by omega, by omega⟩) (hx := hx)]
    refine ⟨by omega, ?_⟩
    rw [show mm_sw 2 (mm_ro (94, 0, 0) 13) = 18 by decide]
    rw [r_78_18 (hx := hx)]
    refine mm_Clm (fun r h3 => ?_) q
    rintro ⟨y, rfl, ⟨g, dg, rfl⟩, q2⟩
    rw [mm_pI, r_78_18_5 (hx := hx)]
    exact q2
  · rw [r_292_6_5 (hy := hy), if_pos rfl]
    rw [if_pos (by omega)]
    rw [r_284_e (hy := hy), show mm_sw 6 13 = 18 by decide]
    rw [r_284_18 (hy := hy), ← e0, ← e1, ← e2]
    refine mm_Clm (fun r h3 => ?_) q
    rintro ⟨y, rfl, ⟨g, dg, rfl⟩, q2⟩
    rw [mm_pI, r_284_18_17 (hy := hy), mm_pL, r_292_7_6 (hy := hy)]
    exact q2
  · refine kk_callJ (a := [zI (mm_w (A (12, 0, 0) 0)), zI (mm_w (A (12, 0, 0) 1)), zI (mm_w (A (12, 0, 0) 2))]) (KC := fun r h Q => ∃ y, r = zI y ∧ (∃ g dg, h = mm_z g dg nx ns) ∧ KC (zL y) h Q) (KM := fun r h Q => ∃ y, r = zI y ∧ (∃ g dg, h = mm_z g dg nx ns) ∧ mm_Wp 292 (mm_blk 292 10) [zR (40, 0, 0), u1, u2, zI 13, u4, zI 3, u6, u7] [zL y] h (fun r h => KM r h Q)) hy l (by simp) (c_14 (hy := hy) (hc := l.1) (hb := hb) (ht := kk_wr) (hn := kk_wr) (hk := kk_wr)) (fun r A2 d2 B2 sr l2 sA sB => ?_)
    obtain ⟨y, er, y0, y1⟩ := sr
    exact kk_J2 (fun Q q => ⟨y, er, ⟨A2, d2, rfl⟩, q⟩) (fun Q q => ⟨y, er, ⟨B2, dm, rfl⟩, q⟩) (K y A2 d2 B2 u6 u7 ⟨by omega, by omega⟩ l2 (sA _ _ (by simp [kk_scr]) (by decide)))
/-- own -/
theorem kk_do14 (hy : 5306 ≤ nx) {u1 u2 u4 u6 u7 : mm_V} (l : kk_L b z n A B d) (hb : b + 1 ≤ 1000000) (gv : kk_gv 14 3 A B)
    (K : ∀ v A2 d2 B2 v6 v7, (-9223372036854775808 ≤ v ∧ v < 9223372036854775808) → kk_L (b + 1) z n A2 B2 d2 → A2 (8, 0, 0) 10 = A (8, 0, 0) 10 → kk_J nx ns dm G (fun Q => KC (zL v) (mm_z A2 d2 nx ns) Q) (fun Q => mm_Wp 292 (mm_blk 292 10) [zR (40, 0, 0), u1, u2, zI 14, u4, zI 3, v6, v7] [zL v] (mm_z B2 dm nx ns) (fun r h => KM r h Q))) :
    kk_J nx ns dm G (fun Q => mm_Cl 78 [zR (1, 0, 0), zR (92, 14, 0), zR (12, 0, 0)] (mm_z A d nx ns) (fun r h => KC r h Q)) (fun Q => mm_Wp 292 (bk_292_6.drop 5) [zR (40, 0, 0), u1, u2, zI 14, u4, zI 3, u6, u7] [zI 0] (mm_z B dm nx ns) (fun r h => KM r h Q)) := by
  have hx : 5275 ≤ nx := by omega
  obtain ⟨e0, r0, k0⟩ := gv 0 (by omega) (by omega)
  obtain ⟨e1, r1, k1⟩ := gv 1 (by omega) (by omega)
  obtain ⟨e2, r2, k2⟩ := gv 2 (by omega) (by omega)
  refine kk_J2 (P1 := fun Q => mm_Cl 15 (zR (1, 0, 0) :: [zI (mm_w (A (12, 0, 0) 0)), zI (mm_w (A (12, 0, 0) 1)), zI (mm_w (A (12, 0, 0) 2))]) (mm_z A d nx ns) (fun r h => (fun r h Q => ∃ y, r = zI y ∧ (∃ g dg, h = mm_z g dg nx ns) ∧ KC (zL y) h Q) r h Q)) (P3 := fun Q => mm_Cl 230 (zR (40, 0, 0) :: [zI (mm_w (A (12, 0, 0) 0)), zI (mm_w (A (12, 0, 0) 1)), zI (mm_w (A (12, 0, 0) 2))]) (mm_z B dm nx ns) (fun r h => (fun r h Q => ∃ y, r = zI y ∧ (∃ g dg, h = mm_z g dg nx ns) ∧ mm_Wp 292 (mm_blk 292 10) [zR (40, 0, 0), u1, u2, zI 14, u4, zI 3, u6, u7] [zL y] h (fun r h => KM r h Q)) r h Q)) (fun Q q => ?_) (fun Q q => ?_) ?_
  · rw [r_78_e (htx1 := ⟨by omega, by omega⟩) (hx := hx)]
    refine ⟨by omega, ?_⟩
    rw [show mm_sw 2 (mm_ro (94, 0, 0) 14) = 19 by decide]
    rw [r_78_19 (hx := hx)]
    refine mm_Clm (fun r h3 => ?_) q
    rintro ⟨y, rfl, ⟨g, dg, rfl⟩, q2⟩
    rw [mm_pI, r_78_19_5 (hx := hx)]
    exact q2
  · rw [r_292_6_5 (hy := hy), if_pos rfl]
    rw [if_pos (by omega)]
    rw [r_284_e (hy := hy), show mm_sw 6 14 = 19 by decide]
    rw [r_284_19 (hy := hy), ← e0, ← e1, ← e2]
    refine mm_Clm (fun r h3 => ?_) q
    rintro ⟨y, rfl, ⟨g, dg, rfl⟩, q2⟩
    rw [mm_pI, r_284_19_17 (hy := hy), mm_pL, r_292_7_6 (hy := hy)]
    exact q2
  · refine kk_callJ (a := [zI (mm_w (A (12, 0, 0) 0)), zI (mm_w (A (12, 0, 0) 1)), zI (mm_w (A (12, 0, 0) 2))]) (KC := fun r h Q => ∃ y, r = zI y ∧ (∃ g dg, h = mm_z g dg nx ns) ∧ KC (zL y) h Q) (KM := fun r h Q => ∃ y, r = zI y ∧ (∃ g dg, h = mm_z g dg nx ns) ∧ mm_Wp 292 (mm_blk 292 10) [zR (40, 0, 0), u1, u2, zI 14, u4, zI 3, u6, u7] [zL y] h (fun r h => KM r h Q)) hy l (by simp) (c_15 (hy := hy) (hc := l.1) (hb := hb) (ht := kk_wr) (hn := kk_wr) (hk := kk_wr)) (fun r A2 d2 B2 sr l2 sA sB => ?_)
    obtain ⟨y, er, y0, y1⟩ := sr
    exact kk_J2 (fun Q q => ⟨y, er, ⟨A2, d2, rfl⟩, q⟩) (fun Q q => ⟨y, er, ⟨B2, dm, rfl⟩, q⟩) (K y A2 d2 B2 u6 u7 ⟨by omega, by omega⟩ l2 (sA _ _ (by simp [kk_scr]) (by decide)))
/-- rights -/
theorem kk_do15 (hy : 5306 ≤ nx) {u1 u2 u4 u6 u7 : mm_V} (l : kk_L b z n A B d) (hb : b + 1 ≤ 1000000) (gv : kk_gv 15 3 A B)
    (K : ∀ v A2 d2 B2 v6 v7, (-9223372036854775808 ≤ v ∧ v < 9223372036854775808) → kk_L (b + 1) z n A2 B2 d2 → A2 (8, 0, 0) 10 = A (8, 0, 0) 10 → kk_J nx ns dm G (fun Q => KC (zL v) (mm_z A2 d2 nx ns) Q) (fun Q => mm_Wp 292 (mm_blk 292 10) [zR (40, 0, 0), u1, u2, zI 15, u4, zI 3, v6, v7] [zL v] (mm_z B2 dm nx ns) (fun r h => KM r h Q))) :
    kk_J nx ns dm G (fun Q => mm_Cl 78 [zR (1, 0, 0), zR (92, 15, 0), zR (12, 0, 0)] (mm_z A d nx ns) (fun r h => KC r h Q)) (fun Q => mm_Wp 292 (bk_292_6.drop 5) [zR (40, 0, 0), u1, u2, zI 15, u4, zI 3, u6, u7] [zI 0] (mm_z B dm nx ns) (fun r h => KM r h Q)) := by
  have hx : 5275 ≤ nx := by omega
  obtain ⟨e0, r0, k0⟩ := gv 0 (by omega) (by omega)
  obtain ⟨e1, r1, k1⟩ := gv 1 (by omega) (by omega)
  obtain ⟨e2, r2, k2⟩ := gv 2 (by omega) (by omega)
  refine kk_J2 (P1 := fun Q => mm_Cl 16 (zR (1, 0, 0) :: [zI (mm_w (A (12, 0, 0) 0)), zI (mm_w (A (12, 0, 0) 1)), zI (mm_w (A (12, 0, 0) 2))]) (mm_z A d nx ns) (fun r h => (fun r h Q => ∃ y, r = zI y ∧ (∃ g dg, h = mm_z g dg nx ns) ∧ KC (zL y) h Q) r h Q)) (P3 := fun Q => mm_Cl 232 (zR (40, 0, 0) :: [zI (mm_w (A (12, 0, 0) 0)), zI (mm_w (A (12, 0, 0) 1)), zI (mm_w (A (12, 0, 0) 2))]) (mm_z B dm nx ns) (fun r h => (fun r h Q => ∃ y, r = zI y ∧ (∃ g dg, h = mm_z g dg nx ns) ∧ mm_Wp 292 (mm_blk 292 10) [zR (40, 0, 0), u1, u2, zI 15, u4, zI 3, u6, u7] [zL y] h (fun r h => KM r h Q)) r h Q)) (fun Q q => ?_) (fun Q q => ?_) ?_
  · rw [r_78_e (htx1 := ⟨by omega, by omega⟩) (hx := hx)]
    refine ⟨by omega, ?_⟩
    rw [show mm_sw 2 (mm_ro (94, 0, 0) 15) = 20 by decide]
    rw [r_78_20 (hx := hx)]
    refine mm_Clm (fun r h3 => ?_) q
    rintro ⟨y, rfl, ⟨g, dg, rfl⟩, q2⟩
    rw [mm_pI, r_78_20_5 (hx := hx)]
    exact q2
  · rw [r_292_6_5 (hy := hy), if_pos rfl]
    rw [if_pos (by omega)]
    rw [r_284_e (hy := hy), show mm_sw 6 15 = 20 by decide]
    rw [r_284_20 (hy := hy), ← e0, ← e1, ← e2]
    refine mm_Clm (fun r h3 => ?_) q
    rintro ⟨y, rfl, ⟨g, dg, rfl⟩, q2⟩
    rw [mm_pI, r_284_20_17 (hy := hy), mm_pL, r_292_7_6 (hy := hy)]
    exact q2
  · refine kk_callJ (a := [zI (mm_w (A (12, 0, 0) 0)), zI (mm_w (A (12, 0, 0) 1)), zI (mm_w (A (12, 0, 0) 2))]) (KC := fun r h Q => ∃ y, r = zI y ∧ (∃ g dg, h = mm_z g dg nx ns) ∧ KC (zL y) h Q) (KM := fun r h Q => ∃ y, r = zI y ∧ (∃ g dg, h = mm_z g dg nx ns) ∧ mm_Wp 292 (mm_blk 292 10) [zR (40, 0, 0), u1, u2, zI 15, u4, zI 3, u6, u7] [zL y] h (fun r h => KM r h Q)) hy l (by simp) (c_16 (hy := hy) (hc := l.1) (hb := hb) (ht := kk_wr) (hn := kk_wr) (hk := kk_wr)) (fun r A2 d2 B2 sr l2 sA sB => ?_)
    obtain ⟨y, er, y0, y1⟩ := sr
    exact kk_J2 (fun Q q => ⟨y, er, ⟨A2, d2, rfl⟩, q⟩) (fun Q q => ⟨y, er, ⟨B2, dm, rfl⟩, q⟩) (K y A2 d2 B2 u6 u7 ⟨by omega, by omega⟩ l2 (sA _ _ (by simp [kk_scr]) (by decide)))
/-- attr -/
theorem kk_do16 (hy : 5306 ≤ nx) {u1 u2 u4 u6 u7 : mm_V} (l : kk_L b z n A B d) (hb : b + 1 ≤ 1000000) (gv : kk_gv 16 5 A B)
    (K : ∀ v A2 d2 B2 v6 v7, (-9223372036854775808 ≤ v ∧ v < 9223372036854775808) → kk_L (b + 1) z n A2 B2 d2 → A2 (8, 0, 0) 10 = A (8, 0, 0) 10 → kk_J nx ns dm G (fun Q => KC (zL v) (mm_z A2 d2 nx ns) Q) (fun Q => mm_Wp 292 (mm_blk 292 10) [zR (40, 0, 0), u1, u2, zI 16, u4, zI 5, v6, v7] [zL v] (mm_z B2 dm nx ns) (fun r h => KM r h Q))) :
    kk_J nx ns dm G (fun Q => mm_Cl 78 [zR (1, 0, 0), zR (92, 16, 0), zR (12, 0, 0)] (mm_z A d nx ns) (fun r h => KC r h Q)) (fun Q => mm_Wp 292 (bk_292_6.drop 5) [zR (40, 0, 0), u1, u2, zI 16, u4, zI 5, u6, u7] [zI 0] (mm_z B dm nx ns) (fun r h => KM r h Q)) := by
  have hx : 5275 ≤ nx := by omega
  obtain ⟨e0, r0, k0⟩ := gv 0 (by omega) (by omega)
  obtain ⟨e1, r1, k1⟩ := gv 1 (by omega) (by omega)
  obtain ⟨e2, r2, k2⟩ := gv 2 (by omega) (by omega)
  obtain ⟨e3, r3, k3⟩ := gv 3 (by omega) (by omega)
  obtain ⟨e4, r4, k4⟩ := gv 4 (by omega) (by omega)
  have t4 := k4.2 (by decide +kernel)
  refine kk_J2 (P1 := fun Q => mm_Cl 17 (zR (1, 0, 0) :: [zI (mm_w (A (12, 0, 0) 0)), zI (mm_w (A (12, 0, 0) 1)), zI (mm_w (A (12, 0, 0) 2)), zL (A (12, 0, 0) 3), zI (A (12, 0, 0) 4)]) (mm_z A d nx ns) (fun r h => (fun r h Q => ∃ y, r = zI y ∧ (∃ g dg, h = mm_z g dg nx ns) ∧ KC (zL y) h Q) r h Q)) (P3 := fun Q => mm_Cl 235 (zR (40, 0, 0) :: [zI (mm_w (A (12, 0, 0) 0)), zI (mm_w (A (12, 0, 0) 1)), zI (mm_w (A (12, 0, 0) 2)), zL (A (12, 0, 0) 3), zI (A (12, 0, 0) 4)]) (mm_z B dm nx ns) (fun r h => (fun r h Q => ∃ y, r = zI y ∧ (∃ g dg, h = mm_z g dg nx ns) ∧ mm_Wp 292 (mm_blk 292 10) [zR (40, 0, 0), u1, u2, zI 16, u4, zI 5, u6, u7] [zL y] h (fun r h => KM r h Q)) r h Q)) (fun Q q => ?_) (fun Q q => ?_) ?_
  · rw [r_78_e (htx1 := ⟨by omega, by omega⟩) (hx := hx)]
    refine ⟨by omega, ?_⟩
    rw [show mm_sw 2 (mm_ro (94, 0, 0) 16) = 21 by decide]
    rw [r_78_21 (hx := hx)]
    rcases t4 with t | t
    · rw [if_neg (by rw [t]; decide), r_78_23 (hx := hx)]
      rw [t] at q
      refine mm_Clm (fun r h3 => ?_) q
      rintro ⟨y, rfl, ⟨g, dg, rfl⟩, q2⟩
      rw [mm_pI, r_78_23_1 (hx := hx)]
      exact q2
    · rw [if_pos (by rw [t]; decide), r_78_23 (hx := hx)]
      rw [t] at q
      refine mm_Clm (fun r h3 => ?_) q
      rintro ⟨y, rfl, ⟨g, dg, rfl⟩, q2⟩
      rw [mm_pI, r_78_23_1 (hx := hx)]
      exact q2
  · rw [r_292_6_5 (hy := hy), if_pos rfl]
    rw [if_neg (by omega), if_pos (by omega)]
    rw [r_285_e (hy := hy), show mm_sw 7 16 = 1 by decide]
    rw [r_285_1 (hy := hy), ← e0, ← e1, ← e2, ← e3, ← e4]
    rcases t4 with t | t
    · rw [if_neg (by rw [t]; decide), r_285_3 (hy := hy)]
      rw [t] at q
      refine mm_Clm (fun r h3 => ?_) q
      rintro ⟨y, rfl, ⟨g, dg, rfl⟩, q2⟩
      rw [mm_pI, r_285_3_1 (hy := hy), mm_pL, r_292_8_6 (hy := hy)]
      exact q2
    · rw [if_pos (by rw [t]; decide), r_285_3 (hy := hy)]
      rw [t] at q
      refine mm_Clm (fun r h3 => ?_) q
      rintro ⟨y, rfl, ⟨g, dg, rfl⟩, q2⟩
      rw [mm_pI, r_285_3_1 (hy := hy), mm_pL, r_292_8_6 (hy := hy)]
      exact q2
  · refine kk_callJ (a := [zI (mm_w (A (12, 0, 0) 0)), zI (mm_w (A (12, 0, 0) 1)), zI (mm_w (A (12, 0, 0) 2)), zL (A (12, 0, 0) 3), zI (A (12, 0, 0) 4)]) (KC := fun r h Q => ∃ y, r = zI y ∧ (∃ g dg, h = mm_z g dg nx ns) ∧ KC (zL y) h Q) (KM := fun r h Q => ∃ y, r = zI y ∧ (∃ g dg, h = mm_z g dg nx ns) ∧ mm_Wp 292 (mm_blk 292 10) [zR (40, 0, 0), u1, u2, zI 16, u4, zI 5, u6, u7] [zL y] h (fun r h => KM r h Q)) hy l (by simp) (c_17 (hy := hy) (hc := l.1) (hb := hb) (ht := kk_wr) (hn := kk_wr) (hk := kk_wr) (hl := r3) (hm := t4)) (fun r A2 d2 B2 sr l2 sA sB => ?_)
    obtain ⟨y, er, y0, y1⟩ := sr
    exact kk_J2 (fun Q q => ⟨y, er, ⟨A2, d2, rfl⟩, q⟩) (fun Q q => ⟨y, er, ⟨B2, dm, rfl⟩, q⟩) (K y A2 d2 B2 u6 u7 ⟨by omega, by omega⟩ l2 (sA _ _ (by simp [kk_scr]) (by decide)))
/-- attributeOf -/
theorem kk_do17 (hy : 5306 ≤ nx) {u1 u2 u4 u6 u7 : mm_V} (l : kk_L b z n A B d) (hb : b + 1 ≤ 1000000) (gv : kk_gv 17 3 A B)
    (K : ∀ v A2 d2 B2 v6 v7, (-9223372036854775808 ≤ v ∧ v < 9223372036854775808) → kk_L (b + 1) z n A2 B2 d2 → A2 (8, 0, 0) 10 = A (8, 0, 0) 10 → kk_J nx ns dm G (fun Q => KC (zL v) (mm_z A2 d2 nx ns) Q) (fun Q => mm_Wp 292 (mm_blk 292 10) [zR (40, 0, 0), u1, u2, zI 17, u4, zI 3, v6, v7] [zL v] (mm_z B2 dm nx ns) (fun r h => KM r h Q))) :
    kk_J nx ns dm G (fun Q => mm_Cl 78 [zR (1, 0, 0), zR (92, 17, 0), zR (12, 0, 0)] (mm_z A d nx ns) (fun r h => KC r h Q)) (fun Q => mm_Wp 292 (bk_292_6.drop 5) [zR (40, 0, 0), u1, u2, zI 17, u4, zI 3, u6, u7] [zI 0] (mm_z B dm nx ns) (fun r h => KM r h Q)) := by
  have hx : 5275 ≤ nx := by omega
  obtain ⟨e0, r0, k0⟩ := gv 0 (by omega) (by omega)
  obtain ⟨e1, r1, k1⟩ := gv 1 (by omega) (by omega)
  obtain ⟨e2, r2, k2⟩ := gv 2 (by omega) (by omega)
  refine kk_J2 (P1 := fun Q => mm_Cl 18 (zR (1, 0, 0) :: [zI (mm_w (A (12, 0, 0) 0)), zI (mm_w (A (12, 0, 0) 1)), zI (mm_w (A (12, 0, 0) 2))]) (mm_z A d nx ns) (fun r h => (fun r h Q => ∃ y, r = zL y ∧ (∃ g dg, h = mm_z g dg nx ns) ∧ KC (zL y) h Q) r h Q)) (P3 := fun Q => mm_Cl 236 (zR (40, 0, 0) :: [zI (mm_w (A (12, 0, 0) 0)), zI (mm_w (A (12, 0, 0) 1)), zI (mm_w (A (12, 0, 0) 2))]) (mm_z B dm nx ns) (fun r h => (fun r h Q => ∃ y, r = zL y ∧ (∃ g dg, h = mm_z g dg nx ns) ∧ mm_Wp 292 (mm_blk 292 10) [zR (40, 0, 0), u1, u2, zI 17, u4, zI 3, u6, u7] [zL y] h (fun r h => KM r h Q)) r h Q)) (fun Q q => ?_) (fun Q q => ?_) ?_
  · rw [r_78_e (htx1 := ⟨by omega, by omega⟩) (hx := hx)]
    refine ⟨by omega, ?_⟩
    rw [show mm_sw 2 (mm_ro (94, 0, 0) 17) = 24 by decide]
    rw [r_78_24 (hx := hx)]
    refine mm_Clm (fun r h3 => ?_) q
    rintro ⟨y, rfl, ⟨g, dg, rfl⟩, q2⟩
    rw [mm_pL, r_78_24_5 (hx := hx)]
    exact q2
  · rw [r_292_6_5 (hy := hy), if_pos rfl]
    rw [if_neg (by omega), if_pos (by omega)]
    rw [r_285_e (hy := hy), show mm_sw 7 17 = 4 by decide]
    rw [r_285_4 (hy := hy), ← e0, ← e1, ← e2]
    refine mm_Clm (fun r h3 => ?_) q
    rintro ⟨y, rfl, ⟨g, dg, rfl⟩, q2⟩
    rw [mm_pL, r_285_4_17 (hy := hy), mm_pL, r_292_8_6 (hy := hy)]
    exact q2
  · refine kk_callJ (a := [zI (mm_w (A (12, 0, 0) 0)), zI (mm_w (A (12, 0, 0) 1)), zI (mm_w (A (12, 0, 0) 2))]) (KC := fun r h Q => ∃ y, r = zL y ∧ (∃ g dg, h = mm_z g dg nx ns) ∧ KC (zL y) h Q) (KM := fun r h Q => ∃ y, r = zL y ∧ (∃ g dg, h = mm_z g dg nx ns) ∧ mm_Wp 292 (mm_blk 292 10) [zR (40, 0, 0), u1, u2, zI 17, u4, zI 3, u6, u7] [zL y] h (fun r h => KM r h Q)) hy l (by simp) (c_18 (hy := hy) (hc := l.1) (hb := hb) (ht := kk_wr) (hn := kk_wr) (hk := kk_wr)) (fun r A2 d2 B2 sr l2 sA sB => ?_)
    obtain ⟨y, er, y0, y1⟩ := sr
    exact kk_J2 (fun Q q => ⟨y, er, ⟨A2, d2, rfl⟩, q⟩) (fun Q q => ⟨y, er, ⟨B2, dm, rfl⟩, q⟩) (K y A2 d2 B2 u6 u7 ⟨by omega, by omega⟩ l2 (sA _ _ (by simp [kk_scr]) (by decide)))
/-- key -/
theorem kk_do18 (hy : 5306 ≤ nx) {u1 u2 u4 u6 u7 : mm_V} (l : kk_L b z n A B d) (hb : b + 1 ≤ 1000000) (gv : kk_gv 18 3 A B)
    (K : ∀ v A2 d2 B2 v6 v7, (-9223372036854775808 ≤ v ∧ v < 9223372036854775808) → kk_L (b + 1) z n A2 B2 d2 → A2 (8, 0, 0) 10 = A (8, 0, 0) 10 → kk_J nx ns dm G (fun Q => KC (zL v) (mm_z A2 d2 nx ns) Q) (fun Q => mm_Wp 292 (mm_blk 292 10) [zR (40, 0, 0), u1, u2, zI 18, u4, zI 3, v6, v7] [zL v] (mm_z B2 dm nx ns) (fun r h => KM r h Q))) :
    kk_J nx ns dm G (fun Q => mm_Cl 78 [zR (1, 0, 0), zR (92, 18, 0), zR (12, 0, 0)] (mm_z A d nx ns) (fun r h => KC r h Q)) (fun Q => mm_Wp 292 (bk_292_6.drop 5) [zR (40, 0, 0), u1, u2, zI 18, u4, zI 3, u6, u7] [zI 0] (mm_z B dm nx ns) (fun r h => KM r h Q)) := by
  have hx : 5275 ≤ nx := by omega
  obtain ⟨e0, r0, k0⟩ := gv 0 (by omega) (by omega)
  obtain ⟨e1, r1, k1⟩ := gv 1 (by omega) (by omega)
  obtain ⟨e2, r2, k2⟩ := gv 2 (by omega) (by omega)
  refine kk_J2 (P1 := fun Q => mm_Cl 19 (zR (1, 0, 0) :: [zI (mm_w (A (12, 0, 0) 0)), zI (mm_w (A (12, 0, 0) 1)), zI (mm_w (A (12, 0, 0) 2))]) (mm_z A d nx ns) (fun r h => (fun r h Q => ∃ y, r = zI y ∧ (∃ g dg, h = mm_z g dg nx ns) ∧ KC (zL y) h Q) r h Q)) (P3 := fun Q => mm_Cl 237 (zR (40, 0, 0) :: [zI (mm_w (A (12, 0, 0) 0)), zI (mm_w (A (12, 0, 0) 1)), zI (mm_w (A (12, 0, 0) 2))]) (mm_z B dm nx ns) (fun r h => (fun r h Q => ∃ y, r = zI y ∧ (∃ g dg, h = mm_z g dg nx ns) ∧ mm_Wp 292 (mm_blk 292 10) [zR (40, 0, 0), u1, u2, zI 18, u4, zI 3, u6, u7] [zL y] h (fun r h => KM r h Q)) r h Q)) (fun Q q => ?_) (fun Q q => ?_) ?_
  · rw [r_78_e (htx1 := ⟨by omega, by omega⟩) (hx := hx)]
    refine ⟨by omega, ?_⟩
    rw [show mm_sw 2 (mm_ro (94, 0, 0) 18) = 25 by decide]
    rw [r_78_25 (hx := hx)]
    refine mm_Clm (fun r h3 => ?_) q
    rintro ⟨y, rfl, ⟨g, dg, rfl⟩, q2⟩
    rw [mm_pI, r_78_25_5 (hx := hx)]
    exact q2
  · rw [r_292_6_5 (hy := hy), if_pos rfl]
    rw [if_neg (by omega), if_pos (by omega)]
    rw [r_285_e (hy := hy), show mm_sw 7 18 = 5 by decide]
    rw [r_285_5 (hy := hy), ← e0, ← e1, ← e2]
    refine mm_Clm (fun r h3 => ?_) q
    rintro ⟨y, rfl, ⟨g, dg, rfl⟩, q2⟩
    rw [mm_pI, r_285_5_17 (hy := hy), mm_pL, r_292_8_6 (hy := hy)]
    exact q2
  · refine kk_callJ (a := [zI (mm_w (A (12, 0, 0) 0)), zI (mm_w (A (12, 0, 0) 1)), zI (mm_w (A (12, 0, 0) 2))]) (KC := fun r h Q => ∃ y, r = zI y ∧ (∃ g dg, h = mm_z g dg nx ns) ∧ KC (zL y) h Q) (KM := fun r h Q => ∃ y, r = zI y ∧ (∃ g dg, h = mm_z g dg nx ns) ∧ mm_Wp 292 (mm_blk 292 10) [zR (40, 0, 0), u1, u2, zI 18, u4, zI 3, u6, u7] [zL y] h (fun r h => KM r h Q)) hy l (by simp) (c_19 (hy := hy) (hc := l.1) (hb := hb) (ht := kk_wr) (hn := kk_wr) (hk := kk_wr)) (fun r A2 d2 B2 sr l2 sA sB => ?_)
    obtain ⟨y, er, y0, y1⟩ := sr
    exact kk_J2 (fun Q q => ⟨y, er, ⟨A2, d2, rfl⟩, q⟩) (fun Q q => ⟨y, er, ⟨B2, dm, rfl⟩, q⟩) (K y A2 d2 B2 u6 u7 ⟨by omega, by omega⟩ l2 (sA _ _ (by simp [kk_scr]) (by decide)))
/-- as -/
theorem kk_do19 (hy : 5306 ≤ nx) {u1 u2 u4 u6 u7 : mm_V} (l : kk_L b z n A B d) (hb : b + 1 ≤ 1000000) (gv : kk_gv 19 1 A B)
    (K : ∀ v A2 d2 B2 v6 v7, (-9223372036854775808 ≤ v ∧ v < 9223372036854775808) → kk_L (b + 1) z n A2 B2 d2 → A2 (8, 0, 0) 10 = A (8, 0, 0) 10 → kk_J nx ns dm G (fun Q => KC (zL v) (mm_z A2 d2 nx ns) Q) (fun Q => mm_Wp 292 (mm_blk 292 10) [zR (40, 0, 0), u1, u2, zI 19, u4, zI 1, v6, v7] [zL v] (mm_z B2 dm nx ns) (fun r h => KM r h Q))) :
    kk_J nx ns dm G (fun Q => mm_Cl 78 [zR (1, 0, 0), zR (92, 19, 0), zR (12, 0, 0)] (mm_z A d nx ns) (fun r h => KC r h Q)) (fun Q => mm_Wp 292 (bk_292_6.drop 5) [zR (40, 0, 0), u1, u2, zI 19, u4, zI 1, u6, u7] [zI 0] (mm_z B dm nx ns) (fun r h => KM r h Q)) := by
  have hx : 5275 ≤ nx := by omega
  obtain ⟨e0, r0, k0⟩ := gv 0 (by omega) (by omega)
  refine kk_J2 (P1 := fun Q => mm_Cl 20 (zR (1, 0, 0) :: [zI (mm_w (A (12, 0, 0) 0))]) (mm_z A d nx ns) (fun r h => (fun r h Q => ∃ y, r = zI y ∧ (∃ g dg, h = mm_z g dg nx ns) ∧ KC (zL y) h Q) r h Q)) (P3 := fun Q => mm_Cl 238 (zR (40, 0, 0) :: [zI (mm_w (A (12, 0, 0) 0))]) (mm_z B dm nx ns) (fun r h => (fun r h Q => ∃ y, r = zI y ∧ (∃ g dg, h = mm_z g dg nx ns) ∧ mm_Wp 292 (mm_blk 292 10) [zR (40, 0, 0), u1, u2, zI 19, u4, zI 1, u6, u7] [zL y] h (fun r h => KM r h Q)) r h Q)) (fun Q q => ?_) (fun Q q => ?_) ?_
  · rw [r_78_e (htx1 := ⟨by omega, by omega⟩) (hx := hx)]
    refine ⟨by omega, ?_⟩
    rw [show mm_sw 2 (mm_ro (94, 0, 0) 19) = 26 by decide]
    rw [r_78_26 (hx := hx)]
    refine mm_Clm (fun r h3 => ?_) q
    rintro ⟨y, rfl, ⟨g, dg, rfl⟩, q2⟩
    rw [mm_pI, r_78_26_3 (hx := hx)]
    exact q2
  · rw [r_292_6_5 (hy := hy), if_pos rfl]
    rw [if_neg (by omega), if_pos (by omega)]
    rw [r_285_e (hy := hy), show mm_sw 7 19 = 6 by decide]
    rw [r_285_6 (hy := hy), ← e0]
    refine mm_Clm (fun r h3 => ?_) q
    rintro ⟨y, rfl, ⟨g, dg, rfl⟩, q2⟩
    rw [mm_pI, r_285_6_7 (hy := hy), mm_pL, r_292_8_6 (hy := hy)]
    exact q2
  · refine kk_callJ (a := [zI (mm_w (A (12, 0, 0) 0))]) (KC := fun r h Q => ∃ y, r = zI y ∧ (∃ g dg, h = mm_z g dg nx ns) ∧ KC (zL y) h Q) (KM := fun r h Q => ∃ y, r = zI y ∧ (∃ g dg, h = mm_z g dg nx ns) ∧ mm_Wp 292 (mm_blk 292 10) [zR (40, 0, 0), u1, u2, zI 19, u4, zI 1, u6, u7] [zL y] h (fun r h => KM r h Q)) hy l (by simp) (c_20 (hy := hy) (hc := l.1) (hb := hb) (ht := kk_wr)) (fun r A2 d2 B2 sr l2 sA sB => ?_)
    obtain ⟨y, er, y0, y1⟩ := sr
    exact kk_J2 (fun Q q => ⟨y, er, ⟨A2, d2, rfl⟩, q⟩) (fun Q q => ⟨y, er, ⟨B2, dm, rfl⟩, q⟩) (K y A2 d2 B2 u6 u7 ⟨by omega, by omega⟩ l2 (sA _ _ (by simp [kk_scr]) (by decide)))
/-- usage -/
theorem kk_do20 (hy : 5306 ≤ nx) {u1 u2 u4 u6 u7 : mm_V} (l : kk_L b z n A B d) (hb : b + 1 ≤ 1000000) (gv : kk_gv 20 2 A B)
    (K : ∀ v A2 d2 B2 v6 v7, (-9223372036854775808 ≤ v ∧ v < 9223372036854775808) → kk_L (b + 1) z n A2 B2 d2 → A2 (8, 0, 0) 10 = A (8, 0, 0) 10 → kk_J nx ns dm G (fun Q => KC (zL v) (mm_z A2 d2 nx ns) Q) (fun Q => mm_Wp 292 (mm_blk 292 10) [zR (40, 0, 0), u1, u2, zI 20, u4, zI 2, v6, v7] [zL v] (mm_z B2 dm nx ns) (fun r h => KM r h Q))) :
    kk_J nx ns dm G (fun Q => mm_Cl 78 [zR (1, 0, 0), zR (92, 20, 0), zR (12, 0, 0)] (mm_z A d nx ns) (fun r h => KC r h Q)) (fun Q => mm_Wp 292 (bk_292_6.drop 5) [zR (40, 0, 0), u1, u2, zI 20, u4, zI 2, u6, u7] [zI 0] (mm_z B dm nx ns) (fun r h => KM r h Q)) := by
  have hx : 5275 ≤ nx := by omega
  obtain ⟨e0, r0, k0⟩ := gv 0 (by omega) (by omega)
  obtain ⟨e1, r1, k1⟩ := gv 1 (by omega) (by omega)
  refine kk_J2 (P1 := fun Q => mm_Cl 21 (zR (1, 0, 0) :: [zI (mm_w (A (12, 0, 0) 0)), zI (mm_w (A (12, 0, 0) 1))]) (mm_z A d nx ns) (fun r h => (fun r h Q => ∃ y, r = zI y ∧ (∃ g dg, h = mm_z g dg nx ns) ∧ KC (zL y) h Q) r h Q)) (P3 := fun Q => mm_Cl 239 (zR (40, 0, 0) :: [zI (mm_w (A (12, 0, 0) 0)), zI (mm_w (A (12, 0, 0) 1))]) (mm_z B dm nx ns) (fun r h => (fun r h Q => ∃ y, r = zI y ∧ (∃ g dg, h = mm_z g dg nx ns) ∧ mm_Wp 292 (mm_blk 292 10) [zR (40, 0, 0), u1, u2, zI 20, u4, zI 2, u6, u7] [zL y] h (fun r h => KM r h Q)) r h Q)) (fun Q q => ?_) (fun Q q => ?_) ?_
  · rw [r_78_e (htx1 := ⟨by omega, by omega⟩) (hx := hx)]
    refine ⟨by omega, ?_⟩
    rw [show mm_sw 2 (mm_ro (94, 0, 0) 20) = 27 by decide]
    rw [r_78_27 (hx := hx)]
    refine mm_Clm (fun r h3 => ?_) q
    rintro ⟨y, rfl, ⟨g, dg, rfl⟩, q2⟩
    rw [mm_pI, r_78_27_4 (hx := hx)]
    exact q2
  · rw [r_292_6_5 (hy := hy), if_pos rfl]
    rw [if_neg (by omega), if_pos (by omega)]
    rw [r_285_e (hy := hy), show mm_sw 7 20 = 7 by decide]
    rw [r_285_7 (hy := hy), ← e0, ← e1]
    refine mm_Clm (fun r h3 => ?_) q
    rintro ⟨y, rfl, ⟨g, dg, rfl⟩, q2⟩
    rw [mm_pI, r_285_7_12 (hy := hy), mm_pL, r_292_8_6 (hy := hy)]
    exact q2
  · refine kk_callJ (a := [zI (mm_w (A (12, 0, 0) 0)), zI (mm_w (A (12, 0, 0) 1))]) (KC := fun r h Q => ∃ y, r = zI y ∧ (∃ g dg, h = mm_z g dg nx ns) ∧ KC (zL y) h Q) (KM := fun r h Q => ∃ y, r = zI y ∧ (∃ g dg, h = mm_z g dg nx ns) ∧ mm_Wp 292 (mm_blk 292 10) [zR (40, 0, 0), u1, u2, zI 20, u4, zI 2, u6, u7] [zL y] h (fun r h => KM r h Q)) hy l (by simp) (c_21 (hy := hy) (hc := l.1) (hb := hb) (ht := kk_wr) (hn := kk_wr)) (fun r A2 d2 B2 sr l2 sA sB => ?_)
    obtain ⟨y, er, y0, y1⟩ := sr
    exact kk_J2 (fun Q q => ⟨y, er, ⟨A2, d2, rfl⟩, q⟩) (fun Q q => ⟨y, er, ⟨B2, dm, rfl⟩, q⟩) (K y A2 d2 B2 u6 u7 ⟨by omega, by omega⟩ l2 (sA _ _ (by simp [kk_scr]) (by decide)))
/-- limit -/
theorem kk_do21 (hy : 5306 ≤ nx) {u1 u2 u4 u6 u7 : mm_V} (l : kk_L b z n A B d) (hb : b + 1 ≤ 1000000) (gv : kk_gv 21 3 A B)
    (K : ∀ v A2 d2 B2 v6 v7, (-9223372036854775808 ≤ v ∧ v < 9223372036854775808) → kk_L (b + 1) z n A2 B2 d2 → A2 (8, 0, 0) 10 = A (8, 0, 0) 10 → kk_J nx ns dm G (fun Q => KC (zL v) (mm_z A2 d2 nx ns) Q) (fun Q => mm_Wp 292 (mm_blk 292 10) [zR (40, 0, 0), u1, u2, zI 21, u4, zI 3, v6, v7] [zL v] (mm_z B2 dm nx ns) (fun r h => KM r h Q))) :
    kk_J nx ns dm G (fun Q => mm_Cl 78 [zR (1, 0, 0), zR (92, 21, 0), zR (12, 0, 0)] (mm_z A d nx ns) (fun r h => KC r h Q)) (fun Q => mm_Wp 292 (bk_292_6.drop 5) [zR (40, 0, 0), u1, u2, zI 21, u4, zI 3, u6, u7] [zI 0] (mm_z B dm nx ns) (fun r h => KM r h Q)) := by
  have hx : 5275 ≤ nx := by omega
  obtain ⟨e0, r0, k0⟩ := gv 0 (by omega) (by omega)
  obtain ⟨e1, r1, k1⟩ := gv 1 (by omega) (by omega)
  obtain ⟨e2, r2, k2⟩ := gv 2 (by omega) (by omega)
  refine kk_J2 (P1 := fun Q => mm_Cl 22 (zR (1, 0, 0) :: [zI (mm_w (A (12, 0, 0) 0)), zI (mm_w (A (12, 0, 0) 1)), zI (mm_w (A (12, 0, 0) 2))]) (mm_z A d nx ns) (fun r h => (fun r h Q => ∃ y, r = zI y ∧ (∃ g dg, h = mm_z g dg nx ns) ∧ KC (zL y) h Q) r h Q)) (P3 := fun Q => mm_Cl 240 (zR (40, 0, 0) :: [zI (mm_w (A (12, 0, 0) 0)), zI (mm_w (A (12, 0, 0) 1)), zI (mm_w (A (12, 0, 0) 2))]) (mm_z B dm nx ns) (fun r h => (fun r h Q => ∃ y, r = zI y ∧ (∃ g dg, h = mm_z g dg nx ns) ∧ mm_Wp 292 (mm_blk 292 10) [zR (40, 0, 0), u1, u2, zI 21, u4, zI 3, u6, u7] [zL y] h (fun r h => KM r h Q)) r h Q)) (fun Q q => ?_) (fun Q q => ?_) ?_
  · rw [r_78_e (htx1 := ⟨by omega, by omega⟩) (hx := hx)]
    refine ⟨by omega, ?_⟩
    rw [show mm_sw 2 (mm_ro (94, 0, 0) 21) = 28 by decide]
    rw [r_78_28 (hx := hx)]
    refine mm_Clm (fun r h3 => ?_) q
    rintro ⟨y, rfl, ⟨g, dg, rfl⟩, q2⟩
    rw [mm_pI, r_78_28_5 (hx := hx)]
    exact q2
  · rw [r_292_6_5 (hy := hy), if_pos rfl]
    rw [if_neg (by omega), if_pos (by omega)]
    rw [r_285_e (hy := hy), show mm_sw 7 21 = 8 by decide]
    rw [r_285_8 (hy := hy), ← e0, ← e1, ← e2]
    refine mm_Clm (fun r h3 => ?_) q
    rintro ⟨y, rfl, ⟨g, dg, rfl⟩, q2⟩
    rw [mm_pI, r_285_8_17 (hy := hy), mm_pL, r_292_8_6 (hy := hy)]
    exact q2
  · refine kk_callJ (a := [zI (mm_w (A (12, 0, 0) 0)), zI (mm_w (A (12, 0, 0) 1)), zI (mm_w (A (12, 0, 0) 2))]) (KC := fun r h Q => ∃ y, r = zI y ∧ (∃ g dg, h = mm_z g dg nx ns) ∧ KC (zL y) h Q) (KM := fun r h Q => ∃ y, r = zI y ∧ (∃ g dg, h = mm_z g dg nx ns) ∧ mm_Wp 292 (mm_blk 292 10) [zR (40, 0, 0), u1, u2, zI 21, u4, zI 3, u6, u7] [zL y] h (fun r h => KM r h Q)) hy l (by simp) (c_22 (hy := hy) (hc := l.1) (hb := hb) (ht := kk_wr) (hn := kk_wr) (hk := kk_wr)) (fun r A2 d2 B2 sr l2 sA sB => ?_)
    obtain ⟨y, er, y0, y1⟩ := sr
    exact kk_J2 (fun Q q => ⟨y, er, ⟨A2, d2, rfl⟩, q⟩) (fun Q q => ⟨y, er, ⟨B2, dm, rfl⟩, q⟩) (K y A2 d2 B2 u6 u7 ⟨by omega, by omega⟩ l2 (sA _ _ (by simp [kk_scr]) (by decide)))
/-- lock -/
theorem kk_do22 (hy : 5306 ≤ nx) {u1 u2 u4 u6 u7 : mm_V} (l : kk_L b z n A B d) (hb : b + 1 ≤ 1000000) (gv : kk_gv 22 4 A B)
    (K : ∀ v A2 d2 B2 v6 v7, (-9223372036854775808 ≤ v ∧ v < 9223372036854775808) → kk_L (b + 1) z n A2 B2 d2 → A2 (8, 0, 0) 10 = A (8, 0, 0) 10 → kk_J nx ns dm G (fun Q => KC (zL v) (mm_z A2 d2 nx ns) Q) (fun Q => mm_Wp 292 (mm_blk 292 10) [zR (40, 0, 0), u1, u2, zI 22, u4, zI 4, v6, v7] [zL v] (mm_z B2 dm nx ns) (fun r h => KM r h Q))) :
    kk_J nx ns dm G (fun Q => mm_Cl 78 [zR (1, 0, 0), zR (92, 22, 0), zR (12, 0, 0)] (mm_z A d nx ns) (fun r h => KC r h Q)) (fun Q => mm_Wp 292 (bk_292_6.drop 5) [zR (40, 0, 0), u1, u2, zI 22, u4, zI 4, u6, u7] [zI 0] (mm_z B dm nx ns) (fun r h => KM r h Q)) := by
  have hx : 5275 ≤ nx := by omega
  obtain ⟨e0, r0, k0⟩ := gv 0 (by omega) (by omega)
  obtain ⟨e1, r1, k1⟩ := gv 1 (by omega) (by omega)
  obtain ⟨e2, r2, k2⟩ := gv 2 (by omega) (by omega)
  obtain ⟨e3, r3, k3⟩ := gv 3 (by omega) (by omega)
  refine kk_J2 (P1 := fun Q => mm_Cl 23 (zR (1, 0, 0) :: [zI (mm_w (A (12, 0, 0) 0)), zI (mm_w (A (12, 0, 0) 1)), zI (mm_w (A (12, 0, 0) 2)), zI (mm_w (A (12, 0, 0) 3))]) (mm_z A d nx ns) (fun r h => (fun r h Q => ∃ y, r = zI y ∧ (∃ g dg, h = mm_z g dg nx ns) ∧ KC (zL y) h Q) r h Q)) (P3 := fun Q => mm_Cl 246 (zR (40, 0, 0) :: [zI (mm_w (A (12, 0, 0) 0)), zI (mm_w (A (12, 0, 0) 1)), zI (mm_w (A (12, 0, 0) 2)), zI (mm_w (A (12, 0, 0) 3))]) (mm_z B dm nx ns) (fun r h => (fun r h Q => ∃ y, r = zI y ∧ (∃ g dg, h = mm_z g dg nx ns) ∧ mm_Wp 292 (mm_blk 292 10) [zR (40, 0, 0), u1, u2, zI 22, u4, zI 4, u6, u7] [zL y] h (fun r h => KM r h Q)) r h Q)) (fun Q q => ?_) (fun Q q => ?_) ?_
  · rw [r_78_e (htx1 := ⟨by omega, by omega⟩) (hx := hx)]
    refine ⟨by omega, ?_⟩
    rw [show mm_sw 2 (mm_ro (94, 0, 0) 22) = 29 by decide]
    rw [r_78_29 (hx := hx)]
    refine mm_Clm (fun r h3 => ?_) q
    rintro ⟨y, rfl, ⟨g, dg, rfl⟩, q2⟩
    rw [mm_pI, r_78_29_6 (hx := hx)]
    exact q2
  · rw [r_292_6_5 (hy := hy), if_pos rfl]
    rw [if_neg (by omega), if_pos (by omega)]
    rw [r_285_e (hy := hy), show mm_sw 7 22 = 9 by decide]
    rw [r_285_9 (hy := hy), ← e0, ← e1, ← e2, ← e3]
    refine mm_Clm (fun r h3 => ?_) q
    rintro ⟨y, rfl, ⟨g, dg, rfl⟩, q2⟩
    rw [mm_pI, r_285_9_22 (hy := hy), mm_pL, r_292_8_6 (hy := hy)]
    exact q2
  · refine kk_callJ (a := [zI (mm_w (A (12, 0, 0) 0)), zI (mm_w (A (12, 0, 0) 1)), zI (mm_w (A (12, 0, 0) 2)), zI (mm_w (A (12, 0, 0) 3))]) (KC := fun r h Q => ∃ y, r = zI y ∧ (∃ g dg, h = mm_z g dg nx ns) ∧ KC (zL y) h Q) (KM := fun r h Q => ∃ y, r = zI y ∧ (∃ g dg, h = mm_z g dg nx ns) ∧ mm_Wp 292 (mm_blk 292 10) [zR (40, 0, 0), u1, u2, zI 22, u4, zI 4, u6, u7] [zL y] h (fun r h => KM r h Q)) hy l (by simp) (c_23 (hy := hy) (hc := l.1) (hb := hb) (ht := kk_wr) (hn := kk_wr) (hk := kk_wr) (hl := kk_wr)) (fun r A2 d2 B2 sr l2 sA sB => ?_)
    obtain ⟨y, er, y0, y1⟩ := sr
    exact kk_J2 (fun Q q => ⟨y, er, ⟨A2, d2, rfl⟩, q⟩) (fun Q q => ⟨y, er, ⟨B2, dm, rfl⟩, q⟩) (K y A2 d2 B2 u6 u7 ⟨by omega, by omega⟩ l2 (sA _ _ (by simp [kk_scr]) (by decide)))
/-- locked -/
theorem kk_do23 (hy : 5306 ≤ nx) {u1 u2 u4 u6 u7 : mm_V} (l : kk_L b z n A B d) (hb : b + 1 ≤ 1000000) (gv : kk_gv 23 2 A B)
    (K : ∀ v A2 d2 B2 v6 v7, (-9223372036854775808 ≤ v ∧ v < 9223372036854775808) → kk_L (b + 1) z n A2 B2 d2 → A2 (8, 0, 0) 10 = A (8, 0, 0) 10 → kk_J nx ns dm G (fun Q => KC (zL v) (mm_z A2 d2 nx ns) Q) (fun Q => mm_Wp 292 (mm_blk 292 10) [zR (40, 0, 0), u1, u2, zI 23, u4, zI 2, v6, v7] [zL v] (mm_z B2 dm nx ns) (fun r h => KM r h Q))) :
    kk_J nx ns dm G (fun Q => mm_Cl 78 [zR (1, 0, 0), zR (92, 23, 0), zR (12, 0, 0)] (mm_z A d nx ns) (fun r h => KC r h Q)) (fun Q => mm_Wp 292 (bk_292_6.drop 5) [zR (40, 0, 0), u1, u2, zI 23, u4, zI 2, u6, u7] [zI 0] (mm_z B dm nx ns) (fun r h => KM r h Q)) := by
  have hx : 5275 ≤ nx := by omega
  obtain ⟨e0, r0, k0⟩ := gv 0 (by omega) (by omega)
  obtain ⟨e1, r1, k1⟩ := gv 1 (by omega) (by omega)
  refine kk_J2 (P1 := fun Q => mm_Cl 24 (zR (1, 0, 0) :: [zI (mm_w (A (12, 0, 0) 0)), zI (mm_w (A (12, 0, 0) 1))]) (mm_z A d nx ns) (fun r h => (fun r h Q => ∃ y, r = zI y ∧ (∃ g dg, h = mm_z g dg nx ns) ∧ KC (zL y) h Q) r h Q)) (P3 := fun Q => mm_Cl 247 (zR (40, 0, 0) :: [zI (mm_w (A (12, 0, 0) 0)), zI (mm_w (A (12, 0, 0) 1))]) (mm_z B dm nx ns) (fun r h => (fun r h Q => ∃ y, r = zI y ∧ (∃ g dg, h = mm_z g dg nx ns) ∧ mm_Wp 292 (mm_blk 292 10) [zR (40, 0, 0), u1, u2, zI 23, u4, zI 2, u6, u7] [zL y] h (fun r h => KM r h Q)) r h Q)) (fun Q q => ?_) (fun Q q => ?_) ?_
  · rw [r_78_e (htx1 := ⟨by omega, by omega⟩) (hx := hx)]
    refine ⟨by omega, ?_⟩
    rw [show mm_sw 2 (mm_ro (94, 0, 0) 23) = 30 by decide]
    rw [r_78_30 (hx := hx)]
    refine mm_Clm (fun r h3 => ?_) q
    rintro ⟨y, rfl, ⟨g, dg, rfl⟩, q2⟩
    rw [mm_pI, r_78_30_4 (hx := hx)]
    exact q2
  · rw [r_292_6_5 (hy := hy), if_pos rfl]
    rw [if_neg (by omega), if_pos (by omega)]
    rw [r_285_e (hy := hy), show mm_sw 7 23 = 10 by decide]
    rw [r_285_10 (hy := hy), ← e0, ← e1]
    refine mm_Clm (fun r h3 => ?_) q
    rintro ⟨y, rfl, ⟨g, dg, rfl⟩, q2⟩
    rw [mm_pI, r_285_10_12 (hy := hy), mm_pL, r_292_8_6 (hy := hy)]
    exact q2
  · refine kk_callJ (a := [zI (mm_w (A (12, 0, 0) 0)), zI (mm_w (A (12, 0, 0) 1))]) (KC := fun r h Q => ∃ y, r = zI y ∧ (∃ g dg, h = mm_z g dg nx ns) ∧ KC (zL y) h Q) (KM := fun r h Q => ∃ y, r = zI y ∧ (∃ g dg, h = mm_z g dg nx ns) ∧ mm_Wp 292 (mm_blk 292 10) [zR (40, 0, 0), u1, u2, zI 23, u4, zI 2, u6, u7] [zL y] h (fun r h => KM r h Q)) hy l (by simp) (c_24 (hy := hy) (hc := l.1) (hb := hb) (ht := kk_wr) (hn := kk_wr)) (fun r A2 d2 B2 sr l2 sA sB => ?_)
    obtain ⟨y, er, y0, y1⟩ := sr
    exact kk_J2 (fun Q q => ⟨y, er, ⟨A2, d2, rfl⟩, q⟩) (fun Q q => ⟨y, er, ⟨B2, dm, rfl⟩, q⟩) (K y A2 d2 B2 u6 u7 ⟨by omega, by omega⟩ l2 (sA _ _ (by simp [kk_scr]) (by decide)))
/-- opn -/
theorem kk_do24 (hy : 5306 ≤ nx) {u1 u2 u4 u6 u7 : mm_V} (l : kk_L b z n A B d) (hb : b + 1 ≤ 1000000) (gv : kk_gv 24 2 A B)
    (K : ∀ v A2 d2 B2 v6 v7, (-9223372036854775808 ≤ v ∧ v < 9223372036854775808) → kk_L (b + 1) z n A2 B2 d2 → A2 (8, 0, 0) 10 = A (8, 0, 0) 10 → kk_J nx ns dm G (fun Q => KC (zL v) (mm_z A2 d2 nx ns) Q) (fun Q => mm_Wp 292 (mm_blk 292 10) [zR (40, 0, 0), u1, u2, zI 24, u4, zI 2, v6, v7] [zL v] (mm_z B2 dm nx ns) (fun r h => KM r h Q))) :
    kk_J nx ns dm G (fun Q => mm_Cl 78 [zR (1, 0, 0), zR (92, 24, 0), zR (12, 0, 0)] (mm_z A d nx ns) (fun r h => KC r h Q)) (fun Q => mm_Wp 292 (bk_292_6.drop 5) [zR (40, 0, 0), u1, u2, zI 24, u4, zI 2, u6, u7] [zI 0] (mm_z B dm nx ns) (fun r h => KM r h Q)) := by
  have hx : 5275 ≤ nx := by omega
  obtain ⟨e0, r0, k0⟩ := gv 0 (by omega) (by omega)
  obtain ⟨e1, r1, k1⟩ := gv 1 (by omega) (by omega)
  refine kk_J2 (P1 := fun Q => mm_Cl 25 (zR (1, 0, 0) :: [zI (mm_w (A (12, 0, 0) 0)), zI (mm_w (A (12, 0, 0) 1))]) (mm_z A d nx ns) (fun r h => (fun r h Q => ∃ y, r = zI y ∧ (∃ g dg, h = mm_z g dg nx ns) ∧ KC (zL y) h Q) r h Q)) (P3 := fun Q => mm_Cl 241 (zR (40, 0, 0) :: [zI (mm_w (A (12, 0, 0) 0)), zI (mm_w (A (12, 0, 0) 1))]) (mm_z B dm nx ns) (fun r h => (fun r h Q => ∃ y, r = zI y ∧ (∃ g dg, h = mm_z g dg nx ns) ∧ mm_Wp 292 (mm_blk 292 10) [zR (40, 0, 0), u1, u2, zI 24, u4, zI 2, u6, u7] [zL y] h (fun r h => KM r h Q)) r h Q)) (fun Q q => ?_) (fun Q q => ?_) ?_
  · rw [r_78_e (htx1 := ⟨by omega, by omega⟩) (hx := hx)]
    refine ⟨by omega, ?_⟩
    rw [show mm_sw 2 (mm_ro (94, 0, 0) 24) = 31 by decide]
    rw [r_78_31 (hx := hx)]
    refine mm_Clm (fun r h3 => ?_) q
    rintro ⟨y, rfl, ⟨g, dg, rfl⟩, q2⟩
    rw [mm_pI, r_78_31_4 (hx := hx)]
    exact q2
  · rw [r_292_6_5 (hy := hy), if_pos rfl]
    rw [if_neg (by omega), if_pos (by omega)]
    rw [r_285_e (hy := hy), show mm_sw 7 24 = 11 by decide]
    rw [r_285_11 (hy := hy), ← e0, ← e1]
    refine mm_Clm (fun r h3 => ?_) q
    rintro ⟨y, rfl, ⟨g, dg, rfl⟩, q2⟩
    rw [mm_pI, r_285_11_12 (hy := hy), mm_pL, r_292_8_6 (hy := hy)]
    exact q2
  · refine kk_callJ (a := [zI (mm_w (A (12, 0, 0) 0)), zI (mm_w (A (12, 0, 0) 1))]) (KC := fun r h Q => ∃ y, r = zI y ∧ (∃ g dg, h = mm_z g dg nx ns) ∧ KC (zL y) h Q) (KM := fun r h Q => ∃ y, r = zI y ∧ (∃ g dg, h = mm_z g dg nx ns) ∧ mm_Wp 292 (mm_blk 292 10) [zR (40, 0, 0), u1, u2, zI 24, u4, zI 2, u6, u7] [zL y] h (fun r h => KM r h Q)) hy l (by simp) (c_25 (hy := hy) (hc := l.1) (hb := hb) (ht := kk_wr) (hn := kk_wr)) (fun r A2 d2 B2 sr l2 sA sB => ?_)
    obtain ⟨y, er, y0, y1⟩ := sr
    exact kk_J2 (fun Q q => ⟨y, er, ⟨A2, d2, rfl⟩, q⟩) (fun Q q => ⟨y, er, ⟨B2, dm, rfl⟩, q⟩) (K y A2 d2 B2 u6 u7 ⟨by omega, by omega⟩ l2 (sA _ _ (by simp [kk_scr]) (by decide)))
/-- close -/
theorem kk_do25 (hy : 5306 ≤ nx) {u1 u2 u4 u6 u7 : mm_V} (l : kk_L b z n A B d) (hb : b + 1 ≤ 1000000) (gv : kk_gv 25 1 A B)
    (K : ∀ v A2 d2 B2 v6 v7, (-9223372036854775808 ≤ v ∧ v < 9223372036854775808) → kk_L (b + 1) z n A2 B2 d2 → A2 (8, 0, 0) 10 = A (8, 0, 0) 10 → kk_J nx ns dm G (fun Q => KC (zL v) (mm_z A2 d2 nx ns) Q) (fun Q => mm_Wp 292 (mm_blk 292 10) [zR (40, 0, 0), u1, u2, zI 25, u4, zI 1, v6, v7] [zL v] (mm_z B2 dm nx ns) (fun r h => KM r h Q))) :
    kk_J nx ns dm G (fun Q => mm_Cl 78 [zR (1, 0, 0), zR (92, 25, 0), zR (12, 0, 0)] (mm_z A d nx ns) (fun r h => KC r h Q)) (fun Q => mm_Wp 292 (bk_292_6.drop 5) [zR (40, 0, 0), u1, u2, zI 25, u4, zI 1, u6, u7] [zI 0] (mm_z B dm nx ns) (fun r h => KM r h Q)) := by
  have hx : 5275 ≤ nx := by omega
  obtain ⟨e0, r0, k0⟩ := gv 0 (by omega) (by omega)
  refine kk_J2 (P1 := fun Q => mm_Cl 26 (zR (1, 0, 0) :: [zI (mm_w (A (12, 0, 0) 0))]) (mm_z A d nx ns) (fun r h => (fun r h Q => ∃ y, r = zI y ∧ (∃ g dg, h = mm_z g dg nx ns) ∧ KC (zL y) h Q) r h Q)) (P3 := fun Q => mm_Cl 243 (zR (40, 0, 0) :: [zI (mm_w (A (12, 0, 0) 0))]) (mm_z B dm nx ns) (fun r h => (fun r h Q => ∃ y, r = zI y ∧ (∃ g dg, h = mm_z g dg nx ns) ∧ mm_Wp 292 (mm_blk 292 10) [zR (40, 0, 0), u1, u2, zI 25, u4, zI 1, u6, u7] [zL y] h (fun r h => KM r h Q)) r h Q)) (fun Q q => ?_) (fun Q q => ?_) ?_
  · rw [r_78_e (htx1 := ⟨by omega, by omega⟩) (hx := hx)]
    refine ⟨by omega, ?_⟩
    rw [show mm_sw 2 (mm_ro (94, 0, 0) 25) = 32 by decide]
    rw [r_78_32 (hx := hx)]
    refine mm_Clm (fun r h3 => ?_) q
    rintro ⟨y, rfl, ⟨g, dg, rfl⟩, q2⟩
    rw [mm_pI, r_78_32_3 (hx := hx)]
    exact q2
  · rw [r_292_6_5 (hy := hy), if_pos rfl]
    rw [if_neg (by omega), if_pos (by omega)]
    rw [r_285_e (hy := hy), show mm_sw 7 25 = 12 by decide]
    rw [r_285_12 (hy := hy), ← e0]
    refine mm_Clm (fun r h3 => ?_) q
    rintro ⟨y, rfl, ⟨g, dg, rfl⟩, q2⟩
    rw [mm_pI, r_285_12_7 (hy := hy), mm_pL, r_292_8_6 (hy := hy)]
    exact q2
  · refine kk_callJ (a := [zI (mm_w (A (12, 0, 0) 0))]) (KC := fun r h Q => ∃ y, r = zI y ∧ (∃ g dg, h = mm_z g dg nx ns) ∧ KC (zL y) h Q) (KM := fun r h Q => ∃ y, r = zI y ∧ (∃ g dg, h = mm_z g dg nx ns) ∧ mm_Wp 292 (mm_blk 292 10) [zR (40, 0, 0), u1, u2, zI 25, u4, zI 1, u6, u7] [zL y] h (fun r h => KM r h Q)) hy l (by simp) (c_26 (hy := hy) (hc := l.1) (hb := hb) (ht := kk_wr)) (fun r A2 d2 B2 sr l2 sA sB => ?_)
    obtain ⟨y, er, y0, y1⟩ := sr
    exact kk_J2 (fun Q q => ⟨y, er, ⟨A2, d2, rfl⟩, q⟩) (fun Q q => ⟨y, er, ⟨B2, dm, rfl⟩, q⟩) (K y A2 d2 B2 u6 u7 ⟨by omega, by omega⟩ l2 (sA _ _ (by simp [kk_scr]) (by decide)))
/-- handle -/
theorem kk_do26 (hy : 5306 ≤ nx) {u1 u2 u4 u6 u7 : mm_V} (l : kk_L b z n A B d) (hb : b + 1 ≤ 1000000) (gv : kk_gv 26 2 A B)
    (K : ∀ v A2 d2 B2 v6 v7, (-9223372036854775808 ≤ v ∧ v < 9223372036854775808) → kk_L (b + 1) z n A2 B2 d2 → A2 (8, 0, 0) 10 = A (8, 0, 0) 10 → kk_J nx ns dm G (fun Q => KC (zL v) (mm_z A2 d2 nx ns) Q) (fun Q => mm_Wp 292 (mm_blk 292 10) [zR (40, 0, 0), u1, u2, zI 26, u4, zI 2, v6, v7] [zL v] (mm_z B2 dm nx ns) (fun r h => KM r h Q))) :
    kk_J nx ns dm G (fun Q => mm_Cl 78 [zR (1, 0, 0), zR (92, 26, 0), zR (12, 0, 0)] (mm_z A d nx ns) (fun r h => KC r h Q)) (fun Q => mm_Wp 292 (bk_292_6.drop 5) [zR (40, 0, 0), u1, u2, zI 26, u4, zI 2, u6, u7] [zI 0] (mm_z B dm nx ns) (fun r h => KM r h Q)) := by
  have hx : 5275 ≤ nx := by omega
  obtain ⟨e0, r0, k0⟩ := gv 0 (by omega) (by omega)
  obtain ⟨e1, r1, k1⟩ := gv 1 (by omega) (by omega)
  refine kk_J2 (P1 := fun Q => mm_Cl 27 (zR (1, 0, 0) :: [zI (mm_w (A (12, 0, 0) 0)), zI (mm_w (A (12, 0, 0) 1))]) (mm_z A d nx ns) (fun r h => (fun r h Q => ∃ y, r = zI y ∧ (∃ g dg, h = mm_z g dg nx ns) ∧ KC (zL y) h Q) r h Q)) (P3 := fun Q => mm_Cl 244 (zR (40, 0, 0) :: [zI (mm_w (A (12, 0, 0) 0)), zI (mm_w (A (12, 0, 0) 1))]) (mm_z B dm nx ns) (fun r h => (fun r h Q => ∃ y, r = zI y ∧ (∃ g dg, h = mm_z g dg nx ns) ∧ mm_Wp 292 (mm_blk 292 10) [zR (40, 0, 0), u1, u2, zI 26, u4, zI 2, u6, u7] [zL y] h (fun r h => KM r h Q)) r h Q)) (fun Q q => ?_) (fun Q q => ?_) ?_
  · rw [r_78_e (htx1 := ⟨by omega, by omega⟩) (hx := hx)]
    refine ⟨by omega, ?_⟩
    rw [show mm_sw 2 (mm_ro (94, 0, 0) 26) = 33 by decide]
    rw [r_78_33 (hx := hx)]
    refine mm_Clm (fun r h3 => ?_) q
    rintro ⟨y, rfl, ⟨g, dg, rfl⟩, q2⟩
    rw [mm_pI, r_78_33_4 (hx := hx)]
    exact q2
  · rw [r_292_6_5 (hy := hy), if_pos rfl]
    rw [if_neg (by omega), if_pos (by omega)]
    rw [r_285_e (hy := hy), show mm_sw 7 26 = 13 by decide]
    rw [r_285_13 (hy := hy), ← e0, ← e1]
    refine mm_Clm (fun r h3 => ?_) q
    rintro ⟨y, rfl, ⟨g, dg, rfl⟩, q2⟩
    rw [mm_pI, r_285_13_12 (hy := hy), mm_pL, r_292_8_6 (hy := hy)]
    exact q2
  · refine kk_callJ (a := [zI (mm_w (A (12, 0, 0) 0)), zI (mm_w (A (12, 0, 0) 1))]) (KC := fun r h Q => ∃ y, r = zI y ∧ (∃ g dg, h = mm_z g dg nx ns) ∧ KC (zL y) h Q) (KM := fun r h Q => ∃ y, r = zI y ∧ (∃ g dg, h = mm_z g dg nx ns) ∧ mm_Wp 292 (mm_blk 292 10) [zR (40, 0, 0), u1, u2, zI 26, u4, zI 2, u6, u7] [zL y] h (fun r h => KM r h Q)) hy l (by simp) (c_27 (hy := hy) (hc := l.1) (hb := hb) (ht := kk_wr) (hn := kk_wr)) (fun r A2 d2 B2 sr l2 sA sB => ?_)
    obtain ⟨y, er, y0, y1⟩ := sr
    exact kk_J2 (fun Q q => ⟨y, er, ⟨A2, d2, rfl⟩, q⟩) (fun Q q => ⟨y, er, ⟨B2, dm, rfl⟩, q⟩) (K y A2 d2 B2 u6 u7 ⟨by omega, by omega⟩ l2 (sA _ _ (by simp [kk_scr]) (by decide)))
/-- snapshot -/
theorem kk_do27 (hy : 5306 ≤ nx) {u1 u2 u4 u6 u7 : mm_V} (l : kk_L b z n A B d) (hb : b + 1 ≤ 1000000) (gv : kk_gv 27 1 A B)
    (K : ∀ v A2 d2 B2 v6 v7, (-9223372036854775808 ≤ v ∧ v < 9223372036854775808) → kk_L (b + 1) z n A2 B2 d2 → A2 (8, 0, 0) 10 = A (8, 0, 0) 10 → kk_J nx ns dm G (fun Q => KC (zL v) (mm_z A2 d2 nx ns) Q) (fun Q => mm_Wp 292 (mm_blk 292 10) [zR (40, 0, 0), u1, u2, zI 27, u4, zI 1, v6, v7] [zL v] (mm_z B2 dm nx ns) (fun r h => KM r h Q))) :
    kk_J nx ns dm G (fun Q => mm_Cl 78 [zR (1, 0, 0), zR (92, 27, 0), zR (12, 0, 0)] (mm_z A d nx ns) (fun r h => KC r h Q)) (fun Q => mm_Wp 292 (bk_292_6.drop 5) [zR (40, 0, 0), u1, u2, zI 27, u4, zI 1, u6, u7] [zI 0] (mm_z B dm nx ns) (fun r h => KM r h Q)) := by
  have hx : 5275 ≤ nx := by omega
  obtain ⟨e0, r0, k0⟩ := gv 0 (by omega) (by omega)
  refine kk_J2 (P1 := fun Q => mm_Cl 28 (zR (1, 0, 0) :: [zI (mm_w (A (12, 0, 0) 0))]) (mm_z A d nx ns) (fun r h => (fun r h Q => ∃ y, r = zI y ∧ (∃ g dg, h = mm_z g dg nx ns) ∧ KC (zL y) h Q) r h Q)) (P3 := fun Q => mm_Cl 250 (zR (40, 0, 0) :: [zI (mm_w (A (12, 0, 0) 0))]) (mm_z B dm nx ns) (fun r h => (fun r h Q => ∃ y, r = zI y ∧ (∃ g dg, h = mm_z g dg nx ns) ∧ mm_Wp 292 (mm_blk 292 10) [zR (40, 0, 0), u1, u2, zI 27, u4, zI 1, u6, u7] [zL y] h (fun r h => KM r h Q)) r h Q)) (fun Q q => ?_) (fun Q q => ?_) ?_
  · rw [r_78_e (htx1 := ⟨by omega, by omega⟩) (hx := hx)]
    refine ⟨by omega, ?_⟩
    rw [show mm_sw 2 (mm_ro (94, 0, 0) 27) = 34 by decide]
    rw [r_78_34 (hx := hx)]
    refine mm_Clm (fun r h3 => ?_) q
    rintro ⟨y, rfl, ⟨g, dg, rfl⟩, q2⟩
    rw [mm_pI, r_78_34_3 (hx := hx)]
    exact q2
  · rw [r_292_6_5 (hy := hy), if_pos rfl]
    rw [if_neg (by omega), if_pos (by omega)]
    rw [r_285_e (hy := hy), show mm_sw 7 27 = 14 by decide]
    rw [r_285_14 (hy := hy), ← e0]
    refine mm_Clm (fun r h3 => ?_) q
    rintro ⟨y, rfl, ⟨g, dg, rfl⟩, q2⟩
    rw [mm_pI, r_285_14_7 (hy := hy), mm_pL, r_292_8_6 (hy := hy)]
    exact q2
  · refine kk_callJ (a := [zI (mm_w (A (12, 0, 0) 0))]) (KC := fun r h Q => ∃ y, r = zI y ∧ (∃ g dg, h = mm_z g dg nx ns) ∧ KC (zL y) h Q) (KM := fun r h Q => ∃ y, r = zI y ∧ (∃ g dg, h = mm_z g dg nx ns) ∧ mm_Wp 292 (mm_blk 292 10) [zR (40, 0, 0), u1, u2, zI 27, u4, zI 1, u6, u7] [zL y] h (fun r h => KM r h Q)) hy l (by simp) (c_28 (hy := hy) (hc := l.1) (hb := hb) (ht := kk_wr)) (fun r A2 d2 B2 sr l2 sA sB => ?_)
    obtain ⟨y, er, y0, y1⟩ := sr
    exact kk_J2 (fun Q q => ⟨y, er, ⟨A2, d2, rfl⟩, q⟩) (fun Q q => ⟨y, er, ⟨B2, dm, rfl⟩, q⟩) (K y A2 d2 B2 u6 u7 ⟨by omega, by omega⟩ l2 (sA _ _ (by simp [kk_scr]) (by decide)))
/-- clone -/
theorem kk_do28 (hy : 5306 ≤ nx) {u1 u2 u4 u6 u7 : mm_V} (l : kk_L b z n A B d) (hb : b + 1 ≤ 1000000) (gv : kk_gv 28 1 A B)
    (K : ∀ v A2 d2 B2 v6 v7, (-9223372036854775808 ≤ v ∧ v < 9223372036854775808) → kk_L (b + 1) z n A2 B2 d2 → A2 (8, 0, 0) 10 = A (8, 0, 0) 10 → kk_J nx ns dm G (fun Q => KC (zL v) (mm_z A2 d2 nx ns) Q) (fun Q => mm_Wp 292 (mm_blk 292 10) [zR (40, 0, 0), u1, u2, zI 28, u4, zI 1, v6, v7] [zL v] (mm_z B2 dm nx ns) (fun r h => KM r h Q))) :
    kk_J nx ns dm G (fun Q => mm_Cl 78 [zR (1, 0, 0), zR (92, 28, 0), zR (12, 0, 0)] (mm_z A d nx ns) (fun r h => KC r h Q)) (fun Q => mm_Wp 292 (bk_292_6.drop 5) [zR (40, 0, 0), u1, u2, zI 28, u4, zI 1, u6, u7] [zI 0] (mm_z B dm nx ns) (fun r h => KM r h Q)) := by
  have hx : 5275 ≤ nx := by omega
  obtain ⟨e0, r0, k0⟩ := gv 0 (by omega) (by omega)
  refine kk_J2 (P1 := fun Q => mm_Cl 29 (zR (1, 0, 0) :: [zI (mm_w (A (12, 0, 0) 0))]) (mm_z A d nx ns) (fun r h => (fun r h Q => ∃ y, r = zI y ∧ (∃ g dg, h = mm_z g dg nx ns) ∧ KC (zL y) h Q) r h Q)) (P3 := fun Q => mm_Cl 251 (zR (40, 0, 0) :: [zI (mm_w (A (12, 0, 0) 0))]) (mm_z B dm nx ns) (fun r h => (fun r h Q => ∃ y, r = zI y ∧ (∃ g dg, h = mm_z g dg nx ns) ∧ mm_Wp 292 (mm_blk 292 10) [zR (40, 0, 0), u1, u2, zI 28, u4, zI 1, u6, u7] [zL y] h (fun r h => KM r h Q)) r h Q)) (fun Q q => ?_) (fun Q q => ?_) ?_
  · rw [r_78_e (htx1 := ⟨by omega, by omega⟩) (hx := hx)]
    refine ⟨by omega, ?_⟩
    rw [show mm_sw 2 (mm_ro (94, 0, 0) 28) = 35 by decide]
    rw [r_78_35 (hx := hx)]
    refine mm_Clm (fun r h3 => ?_) q
    rintro ⟨y, rfl, ⟨g, dg, rfl⟩, q2⟩
    rw [mm_pI, r_78_35_3 (hx := hx)]
    exact q2
  · rw [r_292_6_5 (hy := hy), if_pos rfl]
    rw [if_neg (by omega), if_pos (by omega)]
    rw [r_285_e (hy := hy), show mm_sw 7 28 = 15 by decide]
    rw [r_285_15 (hy := hy), ← e0]
    refine mm_Clm (fun r h3 => ?_) q
    rintro ⟨y, rfl, ⟨g, dg, rfl⟩, q2⟩
    rw [mm_pI, r_285_15_7 (hy := hy), mm_pL, r_292_8_6 (hy := hy)]
    exact q2
  · refine kk_callJ (a := [zI (mm_w (A (12, 0, 0) 0))]) (KC := fun r h Q => ∃ y, r = zI y ∧ (∃ g dg, h = mm_z g dg nx ns) ∧ KC (zL y) h Q) (KM := fun r h Q => ∃ y, r = zI y ∧ (∃ g dg, h = mm_z g dg nx ns) ∧ mm_Wp 292 (mm_blk 292 10) [zR (40, 0, 0), u1, u2, zI 28, u4, zI 1, u6, u7] [zL y] h (fun r h => KM r h Q)) hy l (by simp) (c_29 (hy := hy) (hc := l.1) (hb := hb) (ht := kk_wr)) (fun r A2 d2 B2 sr l2 sA sB => ?_)
    obtain ⟨y, er, y0, y1⟩ := sr
    exact kk_J2 (fun Q q => ⟨y, er, ⟨A2, d2, rfl⟩, q⟩) (fun Q q => ⟨y, er, ⟨B2, dm, rfl⟩, q⟩) (K y A2 d2 B2 u6 u7 ⟨by omega, by omega⟩ l2 (sA _ _ (by simp [kk_scr]) (by decide)))
/-- back -/
theorem kk_do29 (hy : 5306 ≤ nx) {u1 u2 u4 u6 u7 : mm_V} (l : kk_L b z n A B d) (hb : b + 1 ≤ 1000000) (gv : kk_gv 29 2 A B)
    (K : ∀ v A2 d2 B2 v6 v7, (-9223372036854775808 ≤ v ∧ v < 9223372036854775808) → kk_L (b + 1) z n A2 B2 d2 → A2 (8, 0, 0) 10 = A (8, 0, 0) 10 → kk_J nx ns dm G (fun Q => KC (zL v) (mm_z A2 d2 nx ns) Q) (fun Q => mm_Wp 292 (mm_blk 292 10) [zR (40, 0, 0), u1, u2, zI 29, u4, zI 2, v6, v7] [zL v] (mm_z B2 dm nx ns) (fun r h => KM r h Q))) :
    kk_J nx ns dm G (fun Q => mm_Cl 78 [zR (1, 0, 0), zR (92, 29, 0), zR (12, 0, 0)] (mm_z A d nx ns) (fun r h => KC r h Q)) (fun Q => mm_Wp 292 (bk_292_6.drop 5) [zR (40, 0, 0), u1, u2, zI 29, u4, zI 2, u6, u7] [zI 0] (mm_z B dm nx ns) (fun r h => KM r h Q)) := by
  have hx : 5275 ≤ nx := by omega
  obtain ⟨e0, r0, k0⟩ := gv 0 (by omega) (by omega)
  obtain ⟨e1, r1, k1⟩ := gv 1 (by omega) (by omega)
  refine kk_J2 (P1 := fun Q => mm_Cl 30 (zR (1, 0, 0) :: [zI (mm_w (A (12, 0, 0) 0)), zI (mm_w (A (12, 0, 0) 1))]) (mm_z A d nx ns) (fun r h => (fun r h Q => ∃ y, r = zI y ∧ (∃ g dg, h = mm_z g dg nx ns) ∧ KC (zL y) h Q) r h Q)) (P3 := fun Q => mm_Cl 252 (zR (40, 0, 0) :: [zI (mm_w (A (12, 0, 0) 0)), zI (mm_w (A (12, 0, 0) 1))]) (mm_z B dm nx ns) (fun r h => (fun r h Q => ∃ y, r = zI y ∧ (∃ g dg, h = mm_z g dg nx ns) ∧ mm_Wp 292 (mm_blk 292 10) [zR (40, 0, 0), u1, u2, zI 29, u4, zI 2, u6, u7] [zL y] h (fun r h => KM r h Q)) r h Q)) (fun Q q => ?_) (fun Q q => ?_) ?_
  · rw [r_78_e (htx1 := ⟨by omega, by omega⟩) (hx := hx)]
    refine ⟨by omega, ?_⟩
    rw [show mm_sw 2 (mm_ro (94, 0, 0) 29) = 36 by decide]
    rw [r_78_36 (hx := hx)]
    refine mm_Clm (fun r h3 => ?_) q
    rintro ⟨y, rfl, ⟨g, dg, rfl⟩, q2⟩
    rw [mm_pI, r_78_36_4 (hx := hx)]
    exact q2
  · rw [r_292_6_5 (hy := hy), if_pos rfl]
    rw [if_neg (by omega), if_pos (by omega)]
    rw [r_285_e (hy := hy), show mm_sw 7 29 = 16 by decide]
    rw [r_285_16 (hy := hy), ← e0, ← e1]
    refine mm_Clm (fun r h3 => ?_) q
    rintro ⟨y, rfl, ⟨g, dg, rfl⟩, q2⟩
    rw [mm_pI, r_285_16_12 (hy := hy), mm_pL, r_292_8_6 (hy := hy)]
    exact q2
  · refine kk_callJ (a := [zI (mm_w (A (12, 0, 0) 0)), zI (mm_w (A (12, 0, 0) 1))]) (KC := fun r h Q => ∃ y, r = zI y ∧ (∃ g dg, h = mm_z g dg nx ns) ∧ KC (zL y) h Q) (KM := fun r h Q => ∃ y, r = zI y ∧ (∃ g dg, h = mm_z g dg nx ns) ∧ mm_Wp 292 (mm_blk 292 10) [zR (40, 0, 0), u1, u2, zI 29, u4, zI 2, u6, u7] [zL y] h (fun r h => KM r h Q)) hy l (by simp) (c_30 (hy := hy) (hc := l.1) (hb := hb) (ht := kk_wr) (hn := kk_wr)) (fun r A2 d2 B2 sr l2 sA sB => ?_)
    obtain ⟨y, er, y0, y1⟩ := sr
    exact kk_J2 (fun Q q => ⟨y, er, ⟨A2, d2, rfl⟩, q⟩) (fun Q q => ⟨y, er, ⟨B2, dm, rfl⟩, q⟩) (K y A2 d2 B2 u6 u7 ⟨by omega, by omega⟩ l2 (sA _ _ (by simp [kk_scr]) (by decide)))
/-- destroy -/
theorem kk_do30 (hy : 5306 ≤ nx) {u1 u2 u4 u6 u7 : mm_V} (l : kk_L b z n A B d) (hb : b + 1 ≤ 1000000) (gv : kk_gv 30 1 A B)
    (K : ∀ v A2 d2 B2 v6 v7, (-9223372036854775808 ≤ v ∧ v < 9223372036854775808) → kk_L (b + 1) z n A2 B2 d2 → A2 (8, 0, 0) 10 = A (8, 0, 0) 10 → kk_J nx ns dm G (fun Q => KC (zL v) (mm_z A2 d2 nx ns) Q) (fun Q => mm_Wp 292 (mm_blk 292 10) [zR (40, 0, 0), u1, u2, zI 30, u4, zI 1, v6, v7] [zL v] (mm_z B2 dm nx ns) (fun r h => KM r h Q))) :
    kk_J nx ns dm G (fun Q => mm_Cl 78 [zR (1, 0, 0), zR (92, 30, 0), zR (12, 0, 0)] (mm_z A d nx ns) (fun r h => KC r h Q)) (fun Q => mm_Wp 292 (bk_292_6.drop 5) [zR (40, 0, 0), u1, u2, zI 30, u4, zI 1, u6, u7] [zI 0] (mm_z B dm nx ns) (fun r h => KM r h Q)) := by
  have hx : 5275 ≤ nx := by omega
  obtain ⟨e0, r0, k0⟩ := gv 0 (by omega) (by omega)
  refine kk_J2 (P1 := fun Q => mm_Cl 31 (zR (1, 0, 0) :: [zI (mm_w (A (12, 0, 0) 0))]) (mm_z A d nx ns) (fun r h => (fun r h Q => ∃ y, r = zI y ∧ (∃ g dg, h = mm_z g dg nx ns) ∧ KC (zL y) h Q) r h Q)) (P3 := fun Q => mm_Cl 253 (zR (40, 0, 0) :: [zI (mm_w (A (12, 0, 0) 0))]) (mm_z B dm nx ns) (fun r h => (fun r h Q => ∃ y, r = zI y ∧ (∃ g dg, h = mm_z g dg nx ns) ∧ mm_Wp 292 (mm_blk 292 10) [zR (40, 0, 0), u1, u2, zI 30, u4, zI 1, u6, u7] [zL y] h (fun r h => KM r h Q)) r h Q)) (fun Q q => ?_) (fun Q q => ?_) ?_
  · rw [r_78_e (htx1 := ⟨by omega, by omega⟩) (hx := hx)]
    refine ⟨by omega, ?_⟩
    rw [show mm_sw 2 (mm_ro (94, 0, 0) 30) = 37 by decide]
    rw [r_78_37 (hx := hx)]
    refine mm_Clm (fun r h3 => ?_) q
    rintro ⟨y, rfl, ⟨g, dg, rfl⟩, q2⟩
    rw [mm_pI, r_78_37_3 (hx := hx)]
    exact q2
  · rw [r_292_6_5 (hy := hy), if_pos rfl]
    rw [if_neg (by omega), if_pos (by omega)]
    rw [r_285_e (hy := hy), show mm_sw 7 30 = 17 by decide]
    rw [r_285_17 (hy := hy), ← e0]
    refine mm_Clm (fun r h3 => ?_) q
    rintro ⟨y, rfl, ⟨g, dg, rfl⟩, q2⟩
    rw [mm_pI, r_285_17_7 (hy := hy), mm_pL, r_292_8_6 (hy := hy)]
    exact q2
  · refine kk_callJ (a := [zI (mm_w (A (12, 0, 0) 0))]) (KC := fun r h Q => ∃ y, r = zI y ∧ (∃ g dg, h = mm_z g dg nx ns) ∧ KC (zL y) h Q) (KM := fun r h Q => ∃ y, r = zI y ∧ (∃ g dg, h = mm_z g dg nx ns) ∧ mm_Wp 292 (mm_blk 292 10) [zR (40, 0, 0), u1, u2, zI 30, u4, zI 1, u6, u7] [zL y] h (fun r h => KM r h Q)) hy l (by simp) (c_31 (hy := hy) (hc := l.1) (hb := hb) (ht := kk_wr)) (fun r A2 d2 B2 sr l2 sA sB => ?_)
    obtain ⟨y, er, y0, y1⟩ := sr
    exact kk_J2 (fun Q q => ⟨y, er, ⟨A2, d2, rfl⟩, q⟩) (fun Q q => ⟨y, er, ⟨B2, dm, rfl⟩, q⟩) (K y A2 d2 B2 u6 u7 ⟨by omega, by omega⟩ l2 (sA _ _ (by simp [kk_scr]) (by decide)))
/-- hold -/
theorem kk_do31 (hy : 5306 ≤ nx) {u1 u2 u4 u6 u7 : mm_V} (l : kk_L b z n A B d) (hb : b + 1 ≤ 1000000) (gv : kk_gv 31 2 A B)
    (K : ∀ v A2 d2 B2 v6 v7, (-9223372036854775808 ≤ v ∧ v < 9223372036854775808) → kk_L (b + 1) z n A2 B2 d2 → A2 (8, 0, 0) 10 = A (8, 0, 0) 10 → kk_J nx ns dm G (fun Q => KC (zL v) (mm_z A2 d2 nx ns) Q) (fun Q => mm_Wp 292 (mm_blk 292 10) [zR (40, 0, 0), u1, u2, zI 31, u4, zI 2, v6, v7] [zL v] (mm_z B2 dm nx ns) (fun r h => KM r h Q))) :
    kk_J nx ns dm G (fun Q => mm_Cl 78 [zR (1, 0, 0), zR (92, 31, 0), zR (12, 0, 0)] (mm_z A d nx ns) (fun r h => KC r h Q)) (fun Q => mm_Wp 292 (bk_292_6.drop 5) [zR (40, 0, 0), u1, u2, zI 31, u4, zI 2, u6, u7] [zI 0] (mm_z B dm nx ns) (fun r h => KM r h Q)) := by
  have hx : 5275 ≤ nx := by omega
  obtain ⟨e0, r0, k0⟩ := gv 0 (by omega) (by omega)
  obtain ⟨e1, r1, k1⟩ := gv 1 (by omega) (by omega)
  have t1 := k1.2 (by decide +kernel)
  refine kk_J2 (P1 := fun Q => mm_Cl 32 (zR (1, 0, 0) :: [zI (mm_w (A (12, 0, 0) 0)), zI (A (12, 0, 0) 1)]) (mm_z A d nx ns) (fun r h => (fun r h Q => ∃ y, r = zI y ∧ (∃ g dg, h = mm_z g dg nx ns) ∧ KC (zL y) h Q) r h Q)) (P3 := fun Q => mm_Cl 254 (zR (40, 0, 0) :: [zI (mm_w (A (12, 0, 0) 0)), zI (A (12, 0, 0) 1)]) (mm_z B dm nx ns) (fun r h => (fun r h Q => ∃ y, r = zI y ∧ (∃ g dg, h = mm_z g dg nx ns) ∧ mm_Wp 292 (mm_blk 292 10) [zR (40, 0, 0), u1, u2, zI 31, u4, zI 2, u6, u7] [zL y] h (fun r h => KM r h Q)) r h Q)) (fun Q q => ?_) (fun Q q => ?_) ?_
  · rw [r_78_e (htx1 := ⟨by omega, by omega⟩) (hx := hx)]
    refine ⟨by omega, ?_⟩
    rw [show mm_sw 2 (mm_ro (94, 0, 0) 31) = 38 by decide]
    rw [r_78_38 (hx := hx)]
    rcases t1 with t | t
    · rw [if_neg (by rw [t]; decide), r_78_40 (hx := hx)]
      rw [t] at q
      refine mm_Clm (fun r h3 => ?_) q
      rintro ⟨y, rfl, ⟨g, dg, rfl⟩, q2⟩
      rw [mm_pI, r_78_40_1 (hx := hx)]
      exact q2
    · rw [if_pos (by rw [t]; decide), r_78_40 (hx := hx)]
      rw [t] at q
      refine mm_Clm (fun r h3 => ?_) q
      rintro ⟨y, rfl, ⟨g, dg, rfl⟩, q2⟩
      rw [mm_pI, r_78_40_1 (hx := hx)]
      exact q2
  · rw [r_292_6_5 (hy := hy), if_pos rfl]
    rw [if_neg (by omega), if_pos (by omega)]
    rw [r_285_e (hy := hy), show mm_sw 7 31 = 18 by decide]
    rw [r_285_18 (hy := hy), ← e0, ← e1]
    rcases t1 with t | t
    · rw [if_neg (by rw [t]; decide), r_285_20 (hy := hy)]
      rw [t] at q
      refine mm_Clm (fun r h3 => ?_) q
      rintro ⟨y, rfl, ⟨g, dg, rfl⟩, q2⟩
      rw [mm_pI, r_285_20_1 (hy := hy), mm_pL, r_292_8_6 (hy := hy)]
      exact q2
    · rw [if_pos (by rw [t]; decide), r_285_20 (hy := hy)]
      rw [t] at q
      refine mm_Clm (fun r h3 => ?_) q
      rintro ⟨y, rfl, ⟨g, dg, rfl⟩, q2⟩
      rw [mm_pI, r_285_20_1 (hy := hy), mm_pL, r_292_8_6 (hy := hy)]
      exact q2
  · refine kk_callJ (a := [zI (mm_w (A (12, 0, 0) 0)), zI (A (12, 0, 0) 1)]) (KC := fun r h Q => ∃ y, r = zI y ∧ (∃ g dg, h = mm_z g dg nx ns) ∧ KC (zL y) h Q) (KM := fun r h Q => ∃ y, r = zI y ∧ (∃ g dg, h = mm_z g dg nx ns) ∧ mm_Wp 292 (mm_blk 292 10) [zR (40, 0, 0), u1, u2, zI 31, u4, zI 2, u6, u7] [zL y] h (fun r h => KM r h Q)) hy l (by simp) (c_32 (hy := hy) (hc := l.1) (hb := hb) (ht := kk_wr) (hn := t1)) (fun r A2 d2 B2 sr l2 sA sB => ?_)
    obtain ⟨y, er, y0, y1⟩ := sr
    exact kk_J2 (fun Q q => ⟨y, er, ⟨A2, d2, rfl⟩, q⟩) (fun Q q => ⟨y, er, ⟨B2, dm, rfl⟩, q⟩) (K y A2 d2 B2 u6 u7 ⟨by omega, by omega⟩ l2 (sA _ _ (by simp [kk_scr]) (by decide)))
/-- quota -/
theorem kk_do32 (hy : 5306 ≤ nx) {u1 u2 u4 u6 u7 : mm_V} (l : kk_L b z n A B d) (hb : b + 1 ≤ 1000000) (gv : kk_gv 32 2 A B)
    (K : ∀ v A2 d2 B2 v6 v7, (-9223372036854775808 ≤ v ∧ v < 9223372036854775808) → kk_L (b + 1) z n A2 B2 d2 → A2 (8, 0, 0) 10 = A (8, 0, 0) 10 → kk_J nx ns dm G (fun Q => KC (zL v) (mm_z A2 d2 nx ns) Q) (fun Q => mm_Wp 292 (mm_blk 292 10) [zR (40, 0, 0), u1, u2, zI 32, u4, zI 2, v6, v7] [zL v] (mm_z B2 dm nx ns) (fun r h => KM r h Q))) :
    kk_J nx ns dm G (fun Q => mm_Cl 78 [zR (1, 0, 0), zR (92, 32, 0), zR (12, 0, 0)] (mm_z A d nx ns) (fun r h => KC r h Q)) (fun Q => mm_Wp 292 (bk_292_6.drop 5) [zR (40, 0, 0), u1, u2, zI 32, u4, zI 2, u6, u7] [zI 0] (mm_z B dm nx ns) (fun r h => KM r h Q)) := by
  have hx : 5275 ≤ nx := by omega
  obtain ⟨e0, r0, k0⟩ := gv 0 (by omega) (by omega)
  obtain ⟨e1, r1, k1⟩ := gv 1 (by omega) (by omega)
  refine kk_J2 (P1 := fun Q => mm_Cl 33 (zR (1, 0, 0) :: [zI (mm_w (A (12, 0, 0) 0)), zI (mm_w (A (12, 0, 0) 1))]) (mm_z A d nx ns) (fun r h => (fun r h Q => ∃ y, r = zI y ∧ (∃ g dg, h = mm_z g dg nx ns) ∧ KC (zL y) h Q) r h Q)) (P3 := fun Q => mm_Cl 255 (zR (40, 0, 0) :: [zI (mm_w (A (12, 0, 0) 0)), zI (mm_w (A (12, 0, 0) 1))]) (mm_z B dm nx ns) (fun r h => (fun r h Q => ∃ y, r = zI y ∧ (∃ g dg, h = mm_z g dg nx ns) ∧ mm_Wp 292 (mm_blk 292 10) [zR (40, 0, 0), u1, u2, zI 32, u4, zI 2, u6, u7] [zL y] h (fun r h => KM r h Q)) r h Q)) (fun Q q => ?_) (fun Q q => ?_) ?_
  · rw [r_78_e (htx1 := ⟨by omega, by omega⟩) (hx := hx)]
    refine ⟨by omega, ?_⟩
    rw [show mm_sw 2 (mm_ro (94, 0, 0) 32) = 41 by decide]
    rw [r_78_41 (hx := hx)]
    refine mm_Clm (fun r h3 => ?_) q
    rintro ⟨y, rfl, ⟨g, dg, rfl⟩, q2⟩
    rw [mm_pI, r_78_41_4 (hx := hx)]
    exact q2
  · rw [r_292_6_5 (hy := hy), if_pos rfl]
    rw [if_neg (by omega), if_neg (by omega)]
    rw [r_286_e (hy := hy), show mm_sw 8 32 = 1 by decide]
    rw [r_286_1 (hy := hy), ← e0, ← e1]
    refine mm_Clm (fun r h3 => ?_) q
    rintro ⟨y, rfl, ⟨g, dg, rfl⟩, q2⟩
    rw [mm_pI, r_286_1_12 (hy := hy), mm_pL, r_292_9_3 (hy := hy)]
    exact q2
  · refine kk_callJ (a := [zI (mm_w (A (12, 0, 0) 0)), zI (mm_w (A (12, 0, 0) 1))]) (KC := fun r h Q => ∃ y, r = zI y ∧ (∃ g dg, h = mm_z g dg nx ns) ∧ KC (zL y) h Q) (KM := fun r h Q => ∃ y, r = zI y ∧ (∃ g dg, h = mm_z g dg nx ns) ∧ mm_Wp 292 (mm_blk 292 10) [zR (40, 0, 0), u1, u2, zI 32, u4, zI 2, u6, u7] [zL y] h (fun r h => KM r h Q)) hy l (by simp) (c_33 (hy := hy) (hc := l.1) (hb := hb) (ht := kk_wr) (hn := kk_wr)) (fun r A2 d2 B2 sr l2 sA sB => ?_)
    obtain ⟨y, er, y0, y1⟩ := sr
    exact kk_J2 (fun Q q => ⟨y, er, ⟨A2, d2, rfl⟩, q⟩) (fun Q q => ⟨y, er, ⟨B2, dm, rfl⟩, q⟩) (K y A2 d2 B2 u6 u7 ⟨by omega, by omega⟩ l2 (sA _ _ (by simp [kk_scr]) (by decide)))
/-- held -/
theorem kk_do33 (hy : 5306 ≤ nx) {u1 u2 u4 u6 u7 : mm_V} (l : kk_L b z n A B d) (hb : b + 1 ≤ 1000000) (gv : kk_gv 33 2 A B)
    (K : ∀ v A2 d2 B2 v6 v7, (-9223372036854775808 ≤ v ∧ v < 9223372036854775808) → kk_L (b + 1) z n A2 B2 d2 → A2 (8, 0, 0) 10 = A (8, 0, 0) 10 → kk_J nx ns dm G (fun Q => KC (zL v) (mm_z A2 d2 nx ns) Q) (fun Q => mm_Wp 292 (mm_blk 292 10) [zR (40, 0, 0), u1, u2, zI 33, u4, zI 2, v6, v7] [zL v] (mm_z B2 dm nx ns) (fun r h => KM r h Q))) :
    kk_J nx ns dm G (fun Q => mm_Cl 78 [zR (1, 0, 0), zR (92, 33, 0), zR (12, 0, 0)] (mm_z A d nx ns) (fun r h => KC r h Q)) (fun Q => mm_Wp 292 (bk_292_6.drop 5) [zR (40, 0, 0), u1, u2, zI 33, u4, zI 2, u6, u7] [zI 0] (mm_z B dm nx ns) (fun r h => KM r h Q)) := by
  have hx : 5275 ≤ nx := by omega
  obtain ⟨e0, r0, k0⟩ := gv 0 (by omega) (by omega)
  obtain ⟨e1, r1, k1⟩ := gv 1 (by omega) (by omega)
  have t1 := k1.2 (by decide +kernel)
  refine kk_J2 (P1 := fun Q => mm_Cl 34 (zR (1, 0, 0) :: [zI (mm_w (A (12, 0, 0) 0)), zI (A (12, 0, 0) 1)]) (mm_z A d nx ns) (fun r h => (fun r h Q => ∃ y, r = zI y ∧ (∃ g dg, h = mm_z g dg nx ns) ∧ KC (zL y) h Q) r h Q)) (P3 := fun Q => mm_Cl 256 (zR (40, 0, 0) :: [zI (mm_w (A (12, 0, 0) 0)), zI (A (12, 0, 0) 1)]) (mm_z B dm nx ns) (fun r h => (fun r h Q => ∃ y, r = zI y ∧ (∃ g dg, h = mm_z g dg nx ns) ∧ mm_Wp 292 (mm_blk 292 10) [zR (40, 0, 0), u1, u2, zI 33, u4, zI 2, u6, u7] [zL y] h (fun r h => KM r h Q)) r h Q)) (fun Q q => ?_) (fun Q q => ?_) ?_
  · rw [r_78_e (htx1 := ⟨by omega, by omega⟩) (hx := hx)]
    refine ⟨by omega, ?_⟩
    rw [show mm_sw 2 (mm_ro (94, 0, 0) 33) = 42 by decide]
    rw [r_78_42 (hx := hx)]
    rcases t1 with t | t
    · rw [if_neg (by rw [t]; decide), r_78_44 (hx := hx)]
      rw [t] at q
      refine mm_Clm (fun r h3 => ?_) q
      rintro ⟨y, rfl, ⟨g, dg, rfl⟩, q2⟩
      rw [mm_pI, r_78_44_1 (hx := hx)]
      exact q2
    · rw [if_pos (by rw [t]; decide), r_78_44 (hx := hx)]
      rw [t] at q
      refine mm_Clm (fun r h3 => ?_) q
      rintro ⟨y, rfl, ⟨g, dg, rfl⟩, q2⟩
      rw [mm_pI, r_78_44_1 (hx := hx)]
      exact q2
  · rw [r_292_6_5 (hy := hy), if_pos rfl]
    rw [if_neg (by omega), if_neg (by omega)]
    rw [r_286_e (hy := hy), show mm_sw 8 33 = 2 by decide]
    rw [r_286_2 (hy := hy), ← e0, ← e1]
    rcases t1 with t | t
    · rw [if_neg (by rw [t]; decide), r_286_4 (hy := hy)]
      rw [t] at q
      refine mm_Clm (fun r h3 => ?_) q
      rintro ⟨y, rfl, ⟨g, dg, rfl⟩, q2⟩
      rw [mm_pI, r_286_4_1 (hy := hy), mm_pL, r_292_9_3 (hy := hy)]
      exact q2
    · rw [if_pos (by rw [t]; decide), r_286_4 (hy := hy)]
      rw [t] at q
      refine mm_Clm (fun r h3 => ?_) q
      rintro ⟨y, rfl, ⟨g, dg, rfl⟩, q2⟩
      rw [mm_pI, r_286_4_1 (hy := hy), mm_pL, r_292_9_3 (hy := hy)]
      exact q2
  · refine kk_callJ (a := [zI (mm_w (A (12, 0, 0) 0)), zI (A (12, 0, 0) 1)]) (KC := fun r h Q => ∃ y, r = zI y ∧ (∃ g dg, h = mm_z g dg nx ns) ∧ KC (zL y) h Q) (KM := fun r h Q => ∃ y, r = zI y ∧ (∃ g dg, h = mm_z g dg nx ns) ∧ mm_Wp 292 (mm_blk 292 10) [zR (40, 0, 0), u1, u2, zI 33, u4, zI 2, u6, u7] [zL y] h (fun r h => KM r h Q)) hy l (by simp) (c_34 (hy := hy) (hc := l.1) (hb := hb) (ht := kk_wr) (hn := t1)) (fun r A2 d2 B2 sr l2 sA sB => ?_)
    obtain ⟨y, er, y0, y1⟩ := sr
    exact kk_J2 (fun Q q => ⟨y, er, ⟨A2, d2, rfl⟩, q⟩) (fun Q q => ⟨y, er, ⟨B2, dm, rfl⟩, q⟩) (K y A2 d2 B2 u6 u7 ⟨by omega, by omega⟩ l2 (sA _ _ (by simp [kk_scr]) (by decide)))
/-- told -/
theorem kk_do34 (hy : 5306 ≤ nx) {u1 u2 u4 u6 u7 : mm_V} (l : kk_L b z n A B d) (hb : b + 1 ≤ 1000000) (gv : kk_gv 34 2 A B)
    (K : ∀ v A2 d2 B2 v6 v7, (-9223372036854775808 ≤ v ∧ v < 9223372036854775808) → kk_L (b + 1) z n A2 B2 d2 → A2 (8, 0, 0) 10 = A (8, 0, 0) 10 → kk_J nx ns dm G (fun Q => KC (zL v) (mm_z A2 d2 nx ns) Q) (fun Q => mm_Wp 292 (mm_blk 292 10) [zR (40, 0, 0), u1, u2, zI 34, u4, zI 2, v6, v7] [zL v] (mm_z B2 dm nx ns) (fun r h => KM r h Q))) :
    kk_J nx ns dm G (fun Q => mm_Cl 78 [zR (1, 0, 0), zR (92, 34, 0), zR (12, 0, 0)] (mm_z A d nx ns) (fun r h => KC r h Q)) (fun Q => mm_Wp 292 (bk_292_6.drop 5) [zR (40, 0, 0), u1, u2, zI 34, u4, zI 2, u6, u7] [zI 0] (mm_z B dm nx ns) (fun r h => KM r h Q)) := by
  have hx : 5275 ≤ nx := by omega
  obtain ⟨e0, r0, k0⟩ := gv 0 (by omega) (by omega)
  obtain ⟨e1, r1, k1⟩ := gv 1 (by omega) (by omega)
  refine kk_J2 (P1 := fun Q => mm_Cl 35 (zR (1, 0, 0) :: [zI (mm_w (A (12, 0, 0) 0)), zI (mm_w (A (12, 0, 0) 1))]) (mm_z A d nx ns) (fun r h => (fun r h Q => ∃ y, r = zI y ∧ (∃ g dg, h = mm_z g dg nx ns) ∧ KC (zL y) h Q) r h Q)) (P3 := fun Q => mm_Cl 257 (zR (40, 0, 0) :: [zI (mm_w (A (12, 0, 0) 0)), zI (mm_w (A (12, 0, 0) 1))]) (mm_z B dm nx ns) (fun r h => (fun r h Q => ∃ y, r = zI y ∧ (∃ g dg, h = mm_z g dg nx ns) ∧ mm_Wp 292 (mm_blk 292 10) [zR (40, 0, 0), u1, u2, zI 34, u4, zI 2, u6, u7] [zL y] h (fun r h => KM r h Q)) r h Q)) (fun Q q => ?_) (fun Q q => ?_) ?_
  · rw [r_78_e (htx1 := ⟨by omega, by omega⟩) (hx := hx)]
    refine ⟨by omega, ?_⟩
    rw [show mm_sw 2 (mm_ro (94, 0, 0) 34) = 45 by decide]
    rw [r_78_45 (hx := hx)]
    refine mm_Clm (fun r h3 => ?_) q
    rintro ⟨y, rfl, ⟨g, dg, rfl⟩, q2⟩
    rw [mm_pI, r_78_45_4 (hx := hx)]
    exact q2
  · rw [r_292_6_5 (hy := hy), if_pos rfl]
    rw [if_neg (by omega), if_neg (by omega)]
    rw [r_286_e (hy := hy), show mm_sw 8 34 = 5 by decide]
    rw [r_286_5 (hy := hy), ← e0, ← e1]
    refine mm_Clm (fun r h3 => ?_) q
    rintro ⟨y, rfl, ⟨g, dg, rfl⟩, q2⟩
    rw [mm_pI, r_286_5_12 (hy := hy), mm_pL, r_292_9_3 (hy := hy)]
    exact q2
  · refine kk_callJ (a := [zI (mm_w (A (12, 0, 0) 0)), zI (mm_w (A (12, 0, 0) 1))]) (KC := fun r h Q => ∃ y, r = zI y ∧ (∃ g dg, h = mm_z g dg nx ns) ∧ KC (zL y) h Q) (KM := fun r h Q => ∃ y, r = zI y ∧ (∃ g dg, h = mm_z g dg nx ns) ∧ mm_Wp 292 (mm_blk 292 10) [zR (40, 0, 0), u1, u2, zI 34, u4, zI 2, u6, u7] [zL y] h (fun r h => KM r h Q)) hy l (by simp) (c_35 (hy := hy) (hc := l.1) (hb := hb) (ht := kk_wr) (hn := kk_wr)) (fun r A2 d2 B2 sr l2 sA sB => ?_)
    obtain ⟨y, er, y0, y1⟩ := sr
    exact kk_J2 (fun Q q => ⟨y, er, ⟨A2, d2, rfl⟩, q⟩) (fun Q q => ⟨y, er, ⟨B2, dm, rfl⟩, q⟩) (K y A2 d2 B2 u6 u7 ⟨by omega, by omega⟩ l2 (sA _ _ (by simp [kk_scr]) (by decide)))
/-- differs -/
theorem kk_do35 (hy : 5306 ≤ nx) {u1 u2 u4 u6 u7 : mm_V} (l : kk_L b z n A B d) (hb : b + 1 ≤ 1000000) (gv : kk_gv 35 3 A B)
    (K : ∀ v A2 d2 B2 v6 v7, (-9223372036854775808 ≤ v ∧ v < 9223372036854775808) → kk_L (b + 1) z n A2 B2 d2 → A2 (8, 0, 0) 10 = A (8, 0, 0) 10 → kk_J nx ns dm G (fun Q => KC (zL v) (mm_z A2 d2 nx ns) Q) (fun Q => mm_Wp 292 (mm_blk 292 10) [zR (40, 0, 0), u1, u2, zI 35, u4, zI 3, v6, v7] [zL v] (mm_z B2 dm nx ns) (fun r h => KM r h Q))) :
    kk_J nx ns dm G (fun Q => mm_Cl 78 [zR (1, 0, 0), zR (92, 35, 0), zR (12, 0, 0)] (mm_z A d nx ns) (fun r h => KC r h Q)) (fun Q => mm_Wp 292 (bk_292_6.drop 5) [zR (40, 0, 0), u1, u2, zI 35, u4, zI 3, u6, u7] [zI 0] (mm_z B dm nx ns) (fun r h => KM r h Q)) := by
  have hx : 5275 ≤ nx := by omega
  obtain ⟨e0, r0, k0⟩ := gv 0 (by omega) (by omega)
  obtain ⟨e1, r1, k1⟩ := gv 1 (by omega) (by omega)
  obtain ⟨e2, r2, k2⟩ := gv 2 (by omega) (by omega)
  refine kk_J2 (P1 := fun Q => mm_Cl 36 (zR (1, 0, 0) :: [zI (mm_w (A (12, 0, 0) 0)), zI (mm_w (A (12, 0, 0) 1)), zI (mm_w (A (12, 0, 0) 2))]) (mm_z A d nx ns) (fun r h => (fun r h Q => ∃ y, r = zI y ∧ (∃ g dg, h = mm_z g dg nx ns) ∧ KC (zL y) h Q) r h Q)) (P3 := fun Q => mm_Cl 259 (zR (40, 0, 0) :: [zI (mm_w (A (12, 0, 0) 0)), zI (mm_w (A (12, 0, 0) 1)), zI (mm_w (A (12, 0, 0) 2))]) (mm_z B dm nx ns) (fun r h => (fun r h Q => ∃ y, r = zI y ∧ (∃ g dg, h = mm_z g dg nx ns) ∧ mm_Wp 292 (mm_blk 292 10) [zR (40, 0, 0), u1, u2, zI 35, u4, zI 3, u6, u7] [zL y] h (fun r h => KM r h Q)) r h Q)) (fun Q q => ?_) (fun Q q => ?_) ?_
  · rw [r_78_e (htx1 := ⟨by omega, by omega⟩) (hx := hx)]
    refine ⟨by omega, ?_⟩
    rw [show mm_sw 2 (mm_ro (94, 0, 0) 35) = 46 by decide]
    rw [r_78_46 (hx := hx)]
    refine mm_Clm (fun r h3 => ?_) q
    rintro ⟨y, rfl, ⟨g, dg, rfl⟩, q2⟩
    rw [mm_pI, r_78_46_5 (hx := hx)]
    exact q2
  · rw [r_292_6_5 (hy := hy), if_pos rfl]
    rw [if_neg (by omega), if_neg (by omega)]
    rw [r_286_e (hy := hy), show mm_sw 8 35 = 6 by decide]
    rw [r_286_6 (hy := hy), ← e0, ← e1, ← e2]
    refine mm_Clm (fun r h3 => ?_) q
    rintro ⟨y, rfl, ⟨g, dg, rfl⟩, q2⟩
    rw [mm_pI, r_286_6_17 (hy := hy), mm_pL, r_292_9_3 (hy := hy)]
    exact q2
  · refine kk_callJ (a := [zI (mm_w (A (12, 0, 0) 0)), zI (mm_w (A (12, 0, 0) 1)), zI (mm_w (A (12, 0, 0) 2))]) (KC := fun r h Q => ∃ y, r = zI y ∧ (∃ g dg, h = mm_z g dg nx ns) ∧ KC (zL y) h Q) (KM := fun r h Q => ∃ y, r = zI y ∧ (∃ g dg, h = mm_z g dg nx ns) ∧ mm_Wp 292 (mm_blk 292 10) [zR (40, 0, 0), u1, u2, zI 35, u4, zI 3, u6, u7] [zL y] h (fun r h => KM r h Q)) hy l (by simp) (c_36 (hy := hy) (hc := l.1) (hb := hb) (ht := kk_wr) (hn := kk_wr) (hk := kk_wr)) (fun r A2 d2 B2 sr l2 sA sB => ?_)
    obtain ⟨y, er, y0, y1⟩ := sr
    exact kk_J2 (fun Q q => ⟨y, er, ⟨A2, d2, rfl⟩, q⟩) (fun Q q => ⟨y, er, ⟨B2, dm, rfl⟩, q⟩) (K y A2 d2 B2 u6 u7 ⟨by omega, by omega⟩ l2 (sA _ _ (by simp [kk_scr]) (by decide)))
/-- send -/
theorem kk_do36 (hy : 5306 ≤ nx) {u1 u2 u4 u6 u7 : mm_V} (l : kk_L b z n A B d) (hb : b + 1 ≤ 1000000) (gv : kk_gv 36 2 A B)
    (K : ∀ v A2 d2 B2 v6 v7, (-9223372036854775808 ≤ v ∧ v < 9223372036854775808) → kk_L (b + 1) z n A2 B2 d2 → A2 (8, 0, 0) 10 = A (8, 0, 0) 10 → kk_J nx ns dm G (fun Q => KC (zL v) (mm_z A2 d2 nx ns) Q) (fun Q => mm_Wp 292 (mm_blk 292 10) [zR (40, 0, 0), u1, u2, zI 36, u4, zI 2, v6, v7] [zL v] (mm_z B2 dm nx ns) (fun r h => KM r h Q))) :
    kk_J nx ns dm G (fun Q => mm_Cl 78 [zR (1, 0, 0), zR (92, 36, 0), zR (12, 0, 0)] (mm_z A d nx ns) (fun r h => KC r h Q)) (fun Q => mm_Wp 292 (bk_292_6.drop 5) [zR (40, 0, 0), u1, u2, zI 36, u4, zI 2, u6, u7] [zI 0] (mm_z B dm nx ns) (fun r h => KM r h Q)) := by
  have hx : 5275 ≤ nx := by omega
  obtain ⟨e0, r0, k0⟩ := gv 0 (by omega) (by omega)
  obtain ⟨e1, r1, k1⟩ := gv 1 (by omega) (by omega)
  refine kk_J2 (P1 := fun Q => mm_Cl 37 (zR (1, 0, 0) :: [zI (mm_w (A (12, 0, 0) 0)), zI (mm_w (A (12, 0, 0) 1))]) (mm_z A d nx ns) (fun r h => (fun r h Q => ∃ y, r = zI y ∧ (∃ g dg, h = mm_z g dg nx ns) ∧ KC (zL y) h Q) r h Q)) (P3 := fun Q => mm_Cl 260 (zR (40, 0, 0) :: [zI (mm_w (A (12, 0, 0) 0)), zI (mm_w (A (12, 0, 0) 1))]) (mm_z B dm nx ns) (fun r h => (fun r h Q => ∃ y, r = zI y ∧ (∃ g dg, h = mm_z g dg nx ns) ∧ mm_Wp 292 (mm_blk 292 10) [zR (40, 0, 0), u1, u2, zI 36, u4, zI 2, u6, u7] [zL y] h (fun r h => KM r h Q)) r h Q)) (fun Q q => ?_) (fun Q q => ?_) ?_
  · rw [r_78_e (htx1 := ⟨by omega, by omega⟩) (hx := hx)]
    refine ⟨by omega, ?_⟩
    rw [show mm_sw 2 (mm_ro (94, 0, 0) 36) = 47 by decide]
    rw [r_78_47 (hx := hx)]
    refine mm_Clm (fun r h3 => ?_) q
    rintro ⟨y, rfl, ⟨g, dg, rfl⟩, q2⟩
    rw [mm_pI, r_78_47_4 (hx := hx)]
    exact q2
  · rw [r_292_6_5 (hy := hy), if_pos rfl]
    rw [if_neg (by omega), if_neg (by omega)]
    rw [r_286_e (hy := hy), show mm_sw 8 36 = 7 by decide]
    rw [r_286_7 (hy := hy), ← e0, ← e1]
    refine mm_Clm (fun r h3 => ?_) q
    rintro ⟨y, rfl, ⟨g, dg, rfl⟩, q2⟩
    rw [mm_pI, r_286_7_12 (hy := hy), mm_pL, r_292_9_3 (hy := hy)]
    exact q2
  · refine kk_callJ (a := [zI (mm_w (A (12, 0, 0) 0)), zI (mm_w (A (12, 0, 0) 1))]) (KC := fun r h Q => ∃ y, r = zI y ∧ (∃ g dg, h = mm_z g dg nx ns) ∧ KC (zL y) h Q) (KM := fun r h Q => ∃ y, r = zI y ∧ (∃ g dg, h = mm_z g dg nx ns) ∧ mm_Wp 292 (mm_blk 292 10) [zR (40, 0, 0), u1, u2, zI 36, u4, zI 2, u6, u7] [zL y] h (fun r h => KM r h Q)) hy l (by simp) (c_37 (hy := hy) (hc := l.1) (hb := hb) (ht := kk_wr) (hn := kk_wr)) (fun r A2 d2 B2 sr l2 sA sB => ?_)
    obtain ⟨y, er, y0, y1⟩ := sr
    exact kk_J2 (fun Q q => ⟨y, er, ⟨A2, d2, rfl⟩, q⟩) (fun Q q => ⟨y, er, ⟨B2, dm, rfl⟩, q⟩) (K y A2 d2 B2 u6 u7 ⟨by omega, by omega⟩ l2 (sA _ _ (by simp [kk_scr]) (by decide)))
/-- receive -/
theorem kk_do37 (hy : 5306 ≤ nx) {u1 u2 u4 u6 u7 : mm_V} (l : kk_L b z n A B d) (hb : b + 1 ≤ 1000000) (gv : kk_gv 37 1 A B)
    (K : ∀ v A2 d2 B2 v6 v7, (-9223372036854775808 ≤ v ∧ v < 9223372036854775808) → kk_L (b + 1) z n A2 B2 d2 → A2 (8, 0, 0) 10 = A (8, 0, 0) 10 → kk_J nx ns dm G (fun Q => KC (zL v) (mm_z A2 d2 nx ns) Q) (fun Q => mm_Wp 292 (mm_blk 292 10) [zR (40, 0, 0), u1, u2, zI 37, u4, zI 1, v6, v7] [zL v] (mm_z B2 dm nx ns) (fun r h => KM r h Q))) :
    kk_J nx ns dm G (fun Q => mm_Cl 78 [zR (1, 0, 0), zR (92, 37, 0), zR (12, 0, 0)] (mm_z A d nx ns) (fun r h => KC r h Q)) (fun Q => mm_Wp 292 (bk_292_6.drop 5) [zR (40, 0, 0), u1, u2, zI 37, u4, zI 1, u6, u7] [zI 0] (mm_z B dm nx ns) (fun r h => KM r h Q)) := by
  have hx : 5275 ≤ nx := by omega
  obtain ⟨e0, r0, k0⟩ := gv 0 (by omega) (by omega)
  refine kk_J2 (P1 := fun Q => mm_Cl 38 (zR (1, 0, 0) :: [zI (mm_w (A (12, 0, 0) 0))]) (mm_z A d nx ns) (fun r h => (fun r h Q => ∃ y, r = zI y ∧ (∃ g dg, h = mm_z g dg nx ns) ∧ KC (zL y) h Q) r h Q)) (P3 := fun Q => mm_Cl 264 (zR (40, 0, 0) :: [zI (mm_w (A (12, 0, 0) 0))]) (mm_z B dm nx ns) (fun r h => (fun r h Q => ∃ y, r = zI y ∧ (∃ g dg, h = mm_z g dg nx ns) ∧ mm_Wp 292 (mm_blk 292 10) [zR (40, 0, 0), u1, u2, zI 37, u4, zI 1, u6, u7] [zL y] h (fun r h => KM r h Q)) r h Q)) (fun Q q => ?_) (fun Q q => ?_) ?_
  · rw [r_78_e (htx1 := ⟨by omega, by omega⟩) (hx := hx)]
    refine ⟨by omega, ?_⟩
    rw [show mm_sw 2 (mm_ro (94, 0, 0) 37) = 48 by decide]
    rw [r_78_48 (hx := hx)]
    refine mm_Clm (fun r h3 => ?_) q
    rintro ⟨y, rfl, ⟨g, dg, rfl⟩, q2⟩
    rw [mm_pI, r_78_48_3 (hx := hx)]
    exact q2
  · rw [r_292_6_5 (hy := hy), if_pos rfl]
    rw [if_neg (by omega), if_neg (by omega)]
    rw [r_286_e (hy := hy), show mm_sw 8 37 = 8 by decide]
    rw [r_286_8 (hy := hy), ← e0]
    refine mm_Clm (fun r h3 => ?_) q
    rintro ⟨y, rfl, ⟨g, dg, rfl⟩, q2⟩
    rw [mm_pI, r_286_8_7 (hy := hy), mm_pL, r_292_9_3 (hy := hy)]
    exact q2
  · refine kk_callJ (a := [zI (mm_w (A (12, 0, 0) 0))]) (KC := fun r h Q => ∃ y, r = zI y ∧ (∃ g dg, h = mm_z g dg nx ns) ∧ KC (zL y) h Q) (KM := fun r h Q => ∃ y, r = zI y ∧ (∃ g dg, h = mm_z g dg nx ns) ∧ mm_Wp 292 (mm_blk 292 10) [zR (40, 0, 0), u1, u2, zI 37, u4, zI 1, u6, u7] [zL y] h (fun r h => KM r h Q)) hy l (by simp) (c_38 (hy := hy) (hc := l.1) (hb := hb) (ht := kk_wr)) (fun r A2 d2 B2 sr l2 sA sB => ?_)
    obtain ⟨y, er, y0, y1⟩ := sr
    exact kk_J2 (fun Q q => ⟨y, er, ⟨A2, d2, rfl⟩, q⟩) (fun Q q => ⟨y, er, ⟨B2, dm, rfl⟩, q⟩) (K y A2 d2 B2 u6 u7 ⟨by omega, by omega⟩ l2 (sA _ _ (by simp [kk_scr]) (by decide)))
/-- commit -/
theorem kk_do38 (hy : 5306 ≤ nx) {u1 u2 u4 u6 u7 : mm_V} (l : kk_L b z n A B d) (hb : b + 1 ≤ 1000000) (gv : kk_gv 38 0 A B)
    (K : ∀ v A2 d2 B2 v6 v7, (-9223372036854775808 ≤ v ∧ v < 9223372036854775808) → kk_L (b + 1) z n A2 B2 d2 → A2 (8, 0, 0) 10 = A (8, 0, 0) 10 → kk_J nx ns dm G (fun Q => KC (zL v) (mm_z A2 d2 nx ns) Q) (fun Q => mm_Wp 292 (mm_blk 292 10) [zR (40, 0, 0), u1, u2, zI 38, u4, zI 0, v6, v7] [zL v] (mm_z B2 dm nx ns) (fun r h => KM r h Q))) :
    kk_J nx ns dm G (fun Q => mm_Cl 78 [zR (1, 0, 0), zR (92, 38, 0), zR (12, 0, 0)] (mm_z A d nx ns) (fun r h => KC r h Q)) (fun Q => mm_Wp 292 (bk_292_6.drop 5) [zR (40, 0, 0), u1, u2, zI 38, u4, zI 0, u6, u7] [zI 0] (mm_z B dm nx ns) (fun r h => KM r h Q)) := by
  have hx : 5275 ≤ nx := by omega
  refine kk_J2 (P1 := fun Q => mm_Cl 39 (zR (1, 0, 0) :: []) (mm_z A d nx ns) (fun r h => (fun r h Q => ∃ y, r = zI y ∧ (∃ g dg, h = mm_z g dg nx ns) ∧ KC (zL y) h Q) r h Q)) (P3 := fun Q => mm_Cl 265 (zR (40, 0, 0) :: []) (mm_z B dm nx ns) (fun r h => (fun r h Q => ∃ y, r = zI y ∧ (∃ g dg, h = mm_z g dg nx ns) ∧ mm_Wp 292 (mm_blk 292 10) [zR (40, 0, 0), u1, u2, zI 38, u4, zI 0, u6, u7] [zL y] h (fun r h => KM r h Q)) r h Q)) (fun Q q => ?_) (fun Q q => ?_) ?_
  · rw [r_78_e (htx1 := ⟨by omega, by omega⟩) (hx := hx)]
    refine ⟨by omega, ?_⟩
    rw [show mm_sw 2 (mm_ro (94, 0, 0) 38) = 49 by decide]
    rw [r_78_49 (hx := hx)]
    refine mm_Clm (fun r h3 => ?_) q
    rintro ⟨y, rfl, ⟨g, dg, rfl⟩, q2⟩
    rw [mm_pI, r_78_49_2 (hx := hx)]
    exact q2
  · rw [r_292_6_5 (hy := hy), if_pos rfl]
    rw [if_neg (by omega), if_neg (by omega)]
    rw [r_286_e (hy := hy), show mm_sw 8 38 = 9 by decide]
    rw [r_286_9 (hy := hy)]
    refine mm_Clm (fun r h3 => ?_) q
    rintro ⟨y, rfl, ⟨g, dg, rfl⟩, q2⟩
    rw [mm_pI, r_286_9_2 (hy := hy), mm_pL, r_292_9_3 (hy := hy)]
    exact q2
  · refine kk_callJ (a := []) (KC := fun r h Q => ∃ y, r = zI y ∧ (∃ g dg, h = mm_z g dg nx ns) ∧ KC (zL y) h Q) (KM := fun r h Q => ∃ y, r = zI y ∧ (∃ g dg, h = mm_z g dg nx ns) ∧ mm_Wp 292 (mm_blk 292 10) [zR (40, 0, 0), u1, u2, zI 38, u4, zI 0, u6, u7] [zL y] h (fun r h => KM r h Q)) hy l (by simp) (c_39 (hy := hy) (hc := l.1) (hb := hb)) (fun r A2 d2 B2 sr l2 sA sB => ?_)
    obtain ⟨y, er, y0, y1⟩ := sr
    exact kk_J2 (fun Q q => ⟨y, er, ⟨A2, d2, rfl⟩, q⟩) (fun Q q => ⟨y, er, ⟨B2, dm, rfl⟩, q⟩) (K y A2 d2 B2 u6 u7 ⟨by omega, by omega⟩ l2 (sA _ _ (by simp [kk_scr]) (by decide)))
/-- sync -/
theorem kk_do39 (hy : 5306 ≤ nx) {u1 u2 u4 u6 u7 : mm_V} (l : kk_L b z n A B d) (hb : b + 1 ≤ 1000000) (gv : kk_gv 39 0 A B)
    (K : ∀ v A2 d2 B2 v6 v7, (-9223372036854775808 ≤ v ∧ v < 9223372036854775808) → kk_L (b + 1) z n A2 B2 d2 → A2 (8, 0, 0) 10 = A (8, 0, 0) 10 → kk_J nx ns dm G (fun Q => KC (zL v) (mm_z A2 d2 nx ns) Q) (fun Q => mm_Wp 292 (mm_blk 292 10) [zR (40, 0, 0), u1, u2, zI 39, u4, zI 0, v6, v7] [zL v] (mm_z B2 dm nx ns) (fun r h => KM r h Q))) :
    kk_J nx ns dm G (fun Q => mm_Cl 78 [zR (1, 0, 0), zR (92, 39, 0), zR (12, 0, 0)] (mm_z A d nx ns) (fun r h => KC r h Q)) (fun Q => mm_Wp 292 (bk_292_6.drop 5) [zR (40, 0, 0), u1, u2, zI 39, u4, zI 0, u6, u7] [zI 0] (mm_z B dm nx ns) (fun r h => KM r h Q)) := by
  have hx : 5275 ≤ nx := by omega
  refine kk_J2 (P1 := fun Q => mm_Cl 40 (zR (1, 0, 0) :: []) (mm_z A d nx ns) (fun r h => (fun r h Q => ∃ y, r = zI y ∧ (∃ g dg, h = mm_z g dg nx ns) ∧ KC (zL y) h Q) r h Q)) (P3 := fun Q => mm_Cl 266 (zR (40, 0, 0) :: []) (mm_z B dm nx ns) (fun r h => (fun r h Q => ∃ y, r = zI y ∧ (∃ g dg, h = mm_z g dg nx ns) ∧ mm_Wp 292 (mm_blk 292 10) [zR (40, 0, 0), u1, u2, zI 39, u4, zI 0, u6, u7] [zL y] h (fun r h => KM r h Q)) r h Q)) (fun Q q => ?_) (fun Q q => ?_) ?_
  · rw [r_78_e (htx1 := ⟨by omega, by omega⟩) (hx := hx)]
    refine ⟨by omega, ?_⟩
    rw [show mm_sw 2 (mm_ro (94, 0, 0) 39) = 50 by decide]
    rw [r_78_50 (hx := hx)]
    refine mm_Clm (fun r h3 => ?_) q
    rintro ⟨y, rfl, ⟨g, dg, rfl⟩, q2⟩
    rw [mm_pI, r_78_50_2 (hx := hx)]
    exact q2
  · rw [r_292_6_5 (hy := hy), if_pos rfl]
    rw [if_neg (by omega), if_neg (by omega)]
    rw [r_286_e (hy := hy), show mm_sw 8 39 = 10 by decide]
    rw [r_286_10 (hy := hy)]
    refine mm_Clm (fun r h3 => ?_) q
    rintro ⟨y, rfl, ⟨g, dg, rfl⟩, q2⟩
    rw [mm_pI, r_286_10_2 (hy := hy), mm_pL, r_292_9_3 (hy := hy)]
    exact q2
  · refine kk_callJ (a := []) (KC := fun r h Q => ∃ y, r = zI y ∧ (∃ g dg, h = mm_z g dg nx ns) ∧ KC (zL y) h Q) (KM := fun r h Q => ∃ y, r = zI y ∧ (∃ g dg, h = mm_z g dg nx ns) ∧ mm_Wp 292 (mm_blk 292 10) [zR (40, 0, 0), u1, u2, zI 39, u4, zI 0, u6, u7] [zL y] h (fun r h => KM r h Q)) hy l (by simp) (c_40 (hy := hy) (hc := l.1) (hb := hb)) (fun r A2 d2 B2 sr l2 sA sB => ?_)
    obtain ⟨y, er, y0, y1⟩ := sr
    exact kk_J2 (fun Q q => ⟨y, er, ⟨A2, d2, rfl⟩, q⟩) (fun Q q => ⟨y, er, ⟨B2, dm, rfl⟩, q⟩) (K y A2 d2 B2 u6 u7 ⟨by omega, by omega⟩ l2 (sA _ _ (by simp [kk_scr]) (by decide)))
/-- crash -/
theorem kk_do40 (hy : 5306 ≤ nx) {u1 u2 u4 u6 u7 : mm_V} (l : kk_L b z n A B d) (hb : b + 1 ≤ 1000000) (gv : kk_gv 40 1 A B)
    (K : ∀ v A2 d2 B2 v6 v7, (-9223372036854775808 ≤ v ∧ v < 9223372036854775808) → kk_L (b + 1) z n A2 B2 d2 → A2 (8, 0, 0) 10 = A (8, 0, 0) 10 → kk_J nx ns dm G (fun Q => KC (zL v) (mm_z A2 d2 nx ns) Q) (fun Q => mm_Wp 292 (mm_blk 292 10) [zR (40, 0, 0), u1, u2, zI 40, u4, zI 1, v6, v7] [zL v] (mm_z B2 dm nx ns) (fun r h => KM r h Q))) :
    kk_J nx ns dm G (fun Q => mm_Cl 78 [zR (1, 0, 0), zR (92, 40, 0), zR (12, 0, 0)] (mm_z A d nx ns) (fun r h => KC r h Q)) (fun Q => mm_Wp 292 (bk_292_6.drop 5) [zR (40, 0, 0), u1, u2, zI 40, u4, zI 1, u6, u7] [zI 0] (mm_z B dm nx ns) (fun r h => KM r h Q)) := by
  have hx : 5275 ≤ nx := by omega
  obtain ⟨e0, r0, k0⟩ := gv 0 (by omega) (by omega)
  refine kk_J2 (P1 := fun Q => mm_Cl 41 (zR (1, 0, 0) :: [zI (mm_w (A (12, 0, 0) 0))]) (mm_z A d nx ns) (fun r h => (fun r h Q => ∃ y, r = zI y ∧ (∃ g dg, h = mm_z g dg nx ns) ∧ KC (zL y) h Q) r h Q)) (P3 := fun Q => mm_Cl 267 (zR (40, 0, 0) :: [zI (mm_w (A (12, 0, 0) 0))]) (mm_z B dm nx ns) (fun r h => (fun r h Q => ∃ y, r = zI y ∧ (∃ g dg, h = mm_z g dg nx ns) ∧ mm_Wp 292 (mm_blk 292 10) [zR (40, 0, 0), u1, u2, zI 40, u4, zI 1, u6, u7] [zL y] h (fun r h => KM r h Q)) r h Q)) (fun Q q => ?_) (fun Q q => ?_) ?_
  · rw [r_78_e (htx1 := ⟨by omega, by omega⟩) (hx := hx)]
    refine ⟨by omega, ?_⟩
    rw [show mm_sw 2 (mm_ro (94, 0, 0) 40) = 51 by decide]
    rw [r_78_51 (hx := hx)]
    refine mm_Clm (fun r h3 => ?_) q
    rintro ⟨y, rfl, ⟨g, dg, rfl⟩, q2⟩
    rw [mm_pI, r_78_51_3 (hx := hx)]
    exact q2
  · rw [r_292_6_5 (hy := hy), if_pos rfl]
    rw [if_neg (by omega), if_neg (by omega)]
    rw [r_286_e (hy := hy), show mm_sw 8 40 = 11 by decide]
    rw [r_286_11 (hy := hy), ← e0]
    refine mm_Clm (fun r h3 => ?_) q
    rintro ⟨y, rfl, ⟨g, dg, rfl⟩, q2⟩
    rw [mm_pI, r_286_11_7 (hy := hy), mm_pL, r_292_9_3 (hy := hy)]
    exact q2
  · refine kk_callJ (a := [zI (mm_w (A (12, 0, 0) 0))]) (KC := fun r h Q => ∃ y, r = zI y ∧ (∃ g dg, h = mm_z g dg nx ns) ∧ KC (zL y) h Q) (KM := fun r h Q => ∃ y, r = zI y ∧ (∃ g dg, h = mm_z g dg nx ns) ∧ mm_Wp 292 (mm_blk 292 10) [zR (40, 0, 0), u1, u2, zI 40, u4, zI 1, u6, u7] [zL y] h (fun r h => KM r h Q)) hy l (by simp) (c_41 (hy := hy) (hc := l.1) (hb := hb) (ht := kk_wr)) (fun r A2 d2 B2 sr l2 sA sB => ?_)
    obtain ⟨y, er, y0, y1⟩ := sr
    exact kk_J2 (fun Q q => ⟨y, er, ⟨A2, d2, rfl⟩, q⟩) (fun Q q => ⟨y, er, ⟨B2, dm, rfl⟩, q⟩) (K y A2 d2 B2 u6 u7 ⟨by omega, by omega⟩ l2 (sA _ _ (by simp [kk_scr]) (by decide)))
/-- spoil -/
theorem kk_do41 (hy : 5306 ≤ nx) {u1 u2 u4 u6 u7 : mm_V} (l : kk_L b z n A B d) (hb : b + 1 ≤ 1000000) (gv : kk_gv 41 3 A B)
    (K : ∀ v A2 d2 B2 v6 v7, (-9223372036854775808 ≤ v ∧ v < 9223372036854775808) → kk_L (b + 1) z n A2 B2 d2 → A2 (8, 0, 0) 10 = A (8, 0, 0) 10 → kk_J nx ns dm G (fun Q => KC (zL v) (mm_z A2 d2 nx ns) Q) (fun Q => mm_Wp 292 (mm_blk 292 10) [zR (40, 0, 0), u1, u2, zI 41, u4, zI 3, v6, v7] [zL v] (mm_z B2 dm nx ns) (fun r h => KM r h Q))) :
    kk_J nx ns dm G (fun Q => mm_Cl 78 [zR (1, 0, 0), zR (92, 41, 0), zR (12, 0, 0)] (mm_z A d nx ns) (fun r h => KC r h Q)) (fun Q => mm_Wp 292 (bk_292_6.drop 5) [zR (40, 0, 0), u1, u2, zI 41, u4, zI 3, u6, u7] [zI 0] (mm_z B dm nx ns) (fun r h => KM r h Q)) := by
  have hx : 5275 ≤ nx := by omega
  obtain ⟨e0, r0, k0⟩ := gv 0 (by omega) (by omega)
  obtain ⟨e1, r1, k1⟩ := gv 1 (by omega) (by omega)
  obtain ⟨e2, r2, k2⟩ := gv 2 (by omega) (by omega)
  refine kk_J2 (P1 := fun Q => mm_Cl 42 (zR (1, 0, 0) :: [zI (mm_w (A (12, 0, 0) 0)), zI (mm_w (A (12, 0, 0) 1)), zI (mm_w (A (12, 0, 0) 2))]) (mm_z A d nx ns) (fun r h => (fun r h Q => ∃ y, r = zI y ∧ (∃ g dg, h = mm_z g dg nx ns) ∧ KC (zL y) h Q) r h Q)) (P3 := fun Q => mm_Cl 270 (zR (40, 0, 0) :: [zI (mm_w (A (12, 0, 0) 0)), zI (mm_w (A (12, 0, 0) 1)), zI (mm_w (A (12, 0, 0) 2))]) (mm_z B dm nx ns) (fun r h => (fun r h Q => ∃ y, r = zI y ∧ (∃ g dg, h = mm_z g dg nx ns) ∧ mm_Wp 292 (mm_blk 292 10) [zR (40, 0, 0), u1, u2, zI 41, u4, zI 3, u6, u7] [zL y] h (fun r h => KM r h Q)) r h Q)) (fun Q q => ?_) (fun Q q => ?_) ?_
  · rw [r_78_e (htx1 := ⟨by omega, by omega⟩) (hx := hx)]
    refine ⟨by omega, ?_⟩
    rw [show mm_sw 2 (mm_ro (94, 0, 0) 41) = 52 by decide]
    rw [r_78_52 (hx := hx)]
    refine mm_Clm (fun r h3 => ?_) q
    rintro ⟨y, rfl, ⟨g, dg, rfl⟩, q2⟩
    rw [mm_pI, r_78_52_5 (hx := hx)]
    exact q2
  · rw [r_292_6_5 (hy := hy), if_pos rfl]
    rw [if_neg (by omega), if_neg (by omega)]
    rw [r_286_e (hy := hy), show mm_sw 8 41 = 12 by decide]
    rw [r_286_12 (hy := hy), ← e0, ← e1, ← e2]
    refine mm_Clm (fun r h3 => ?_) q
    rintro ⟨y, rfl, ⟨g, dg, rfl⟩, q2⟩
    rw [mm_pI, r_286_12_17 (hy := hy), mm_pL, r_292_9_3 (hy := hy)]
    exact q2
  · refine kk_callJ (a := [zI (mm_w (A (12, 0, 0) 0)), zI (mm_w (A (12, 0, 0) 1)), zI (mm_w (A (12, 0, 0) 2))]) (KC := fun r h Q => ∃ y, r = zI y ∧ (∃ g dg, h = mm_z g dg nx ns) ∧ KC (zL y) h Q) (KM := fun r h Q => ∃ y, r = zI y ∧ (∃ g dg, h = mm_z g dg nx ns) ∧ mm_Wp 292 (mm_blk 292 10) [zR (40, 0, 0), u1, u2, zI 41, u4, zI 3, u6, u7] [zL y] h (fun r h => KM r h Q)) hy l (by simp) (c_42 (hy := hy) (hc := l.1) (hb := hb) (ht := kk_wr) (hn := kk_wr) (hk := kk_wr)) (fun r A2 d2 B2 sr l2 sA sB => ?_)
    obtain ⟨y, er, y0, y1⟩ := sr
    exact kk_J2 (fun Q q => ⟨y, er, ⟨A2, d2, rfl⟩, q⟩) (fun Q q => ⟨y, er, ⟨B2, dm, rfl⟩, q⟩) (K y A2 d2 B2 u6 u7 ⟨by omega, by omega⟩ l2 (sA _ _ (by simp [kk_scr]) (by decide)))
/-- lose -/
theorem kk_do42 (hy : 5306 ≤ nx) {u1 u2 u4 u6 u7 : mm_V} (l : kk_L b z n A B d) (hb : b + 1 ≤ 1000000) (gv : kk_gv 42 1 A B)
    (K : ∀ v A2 d2 B2 v6 v7, (-9223372036854775808 ≤ v ∧ v < 9223372036854775808) → kk_L (b + 1) z n A2 B2 d2 → A2 (8, 0, 0) 10 = A (8, 0, 0) 10 → kk_J nx ns dm G (fun Q => KC (zL v) (mm_z A2 d2 nx ns) Q) (fun Q => mm_Wp 292 (mm_blk 292 10) [zR (40, 0, 0), u1, u2, zI 42, u4, zI 1, v6, v7] [zL v] (mm_z B2 dm nx ns) (fun r h => KM r h Q))) :
    kk_J nx ns dm G (fun Q => mm_Cl 78 [zR (1, 0, 0), zR (92, 42, 0), zR (12, 0, 0)] (mm_z A d nx ns) (fun r h => KC r h Q)) (fun Q => mm_Wp 292 (bk_292_6.drop 5) [zR (40, 0, 0), u1, u2, zI 42, u4, zI 1, u6, u7] [zI 0] (mm_z B dm nx ns) (fun r h => KM r h Q)) := by
  have hx : 5275 ≤ nx := by omega
  obtain ⟨e0, r0, k0⟩ := gv 0 (by omega) (by omega)
  refine kk_J2 (P1 := fun Q => mm_Cl 43 (zR (1, 0, 0) :: [zI (mm_w (A (12, 0, 0) 0))]) (mm_z A d nx ns) (fun r h => (fun r h Q => ∃ y, r = zI y ∧ (∃ g dg, h = mm_z g dg nx ns) ∧ KC (zL y) h Q) r h Q)) (P3 := fun Q => mm_Cl 271 (zR (40, 0, 0) :: [zI (mm_w (A (12, 0, 0) 0))]) (mm_z B dm nx ns) (fun r h => (fun r h Q => ∃ y, r = zI y ∧ (∃ g dg, h = mm_z g dg nx ns) ∧ mm_Wp 292 (mm_blk 292 10) [zR (40, 0, 0), u1, u2, zI 42, u4, zI 1, u6, u7] [zL y] h (fun r h => KM r h Q)) r h Q)) (fun Q q => ?_) (fun Q q => ?_) ?_
  · rw [r_78_e (htx1 := ⟨by omega, by omega⟩) (hx := hx)]
    refine ⟨by omega, ?_⟩
    rw [show mm_sw 2 (mm_ro (94, 0, 0) 42) = 53 by decide]
    rw [r_78_53 (hx := hx)]
    refine mm_Clm (fun r h3 => ?_) q
    rintro ⟨y, rfl, ⟨g, dg, rfl⟩, q2⟩
    rw [mm_pI, r_78_53_3 (hx := hx)]
    exact q2
  · rw [r_292_6_5 (hy := hy), if_pos rfl]
    rw [if_neg (by omega), if_neg (by omega)]
    rw [r_286_e (hy := hy), show mm_sw 8 42 = 13 by decide]
    rw [r_286_13 (hy := hy), ← e0]
    refine mm_Clm (fun r h3 => ?_) q
    rintro ⟨y, rfl, ⟨g, dg, rfl⟩, q2⟩
    rw [mm_pI, r_286_13_7 (hy := hy), mm_pL, r_292_9_3 (hy := hy)]
    exact q2
  · refine kk_callJ (a := [zI (mm_w (A (12, 0, 0) 0))]) (KC := fun r h Q => ∃ y, r = zI y ∧ (∃ g dg, h = mm_z g dg nx ns) ∧ KC (zL y) h Q) (KM := fun r h Q => ∃ y, r = zI y ∧ (∃ g dg, h = mm_z g dg nx ns) ∧ mm_Wp 292 (mm_blk 292 10) [zR (40, 0, 0), u1, u2, zI 42, u4, zI 1, u6, u7] [zL y] h (fun r h => KM r h Q)) hy l (by simp) (c_43 (hy := hy) (hc := l.1) (hb := hb) (ht := kk_wr)) (fun r A2 d2 B2 sr l2 sA sB => ?_)
    obtain ⟨y, er, y0, y1⟩ := sr
    exact kk_J2 (fun Q q => ⟨y, er, ⟨A2, d2, rfl⟩, q⟩) (fun Q q => ⟨y, er, ⟨B2, dm, rfl⟩, q⟩) (K y A2 d2 B2 u6 u7 ⟨by omega, by omega⟩ l2 (sA _ _ (by simp [kk_scr]) (by decide)))
/-- bring -/
theorem kk_do43 (hy : 5306 ≤ nx) {u1 u2 u4 u6 u7 : mm_V} (l : kk_L b z n A B d) (hb : b + 1 ≤ 1000000) (gv : kk_gv 43 2 A B)
    (K : ∀ v A2 d2 B2 v6 v7, (-9223372036854775808 ≤ v ∧ v < 9223372036854775808) → kk_L (b + 1) z n A2 B2 d2 → A2 (8, 0, 0) 10 = A (8, 0, 0) 10 → kk_J nx ns dm G (fun Q => KC (zL v) (mm_z A2 d2 nx ns) Q) (fun Q => mm_Wp 292 (mm_blk 292 10) [zR (40, 0, 0), u1, u2, zI 43, u4, zI 2, v6, v7] [zL v] (mm_z B2 dm nx ns) (fun r h => KM r h Q))) :
    kk_J nx ns dm G (fun Q => mm_Cl 78 [zR (1, 0, 0), zR (92, 43, 0), zR (12, 0, 0)] (mm_z A d nx ns) (fun r h => KC r h Q)) (fun Q => mm_Wp 292 (bk_292_6.drop 5) [zR (40, 0, 0), u1, u2, zI 43, u4, zI 2, u6, u7] [zI 0] (mm_z B dm nx ns) (fun r h => KM r h Q)) := by
  have hx : 5275 ≤ nx := by omega
  obtain ⟨e0, r0, k0⟩ := gv 0 (by omega) (by omega)
  obtain ⟨e1, r1, k1⟩ := gv 1 (by omega) (by omega)
  have t1 := k1.2 (by decide +kernel)
  refine kk_J2 (P1 := fun Q => mm_Cl 44 (zR (1, 0, 0) :: [zI (mm_w (A (12, 0, 0) 0)), zI (A (12, 0, 0) 1)]) (mm_z A d nx ns) (fun r h => (fun r h Q => ∃ y, r = zI y ∧ (∃ g dg, h = mm_z g dg nx ns) ∧ KC (zL y) h Q) r h Q)) (P3 := fun Q => mm_Cl 272 (zR (40, 0, 0) :: [zI (mm_w (A (12, 0, 0) 0)), zI (A (12, 0, 0) 1)]) (mm_z B dm nx ns) (fun r h => (fun r h Q => ∃ y, r = zI y ∧ (∃ g dg, h = mm_z g dg nx ns) ∧ mm_Wp 292 (mm_blk 292 10) [zR (40, 0, 0), u1, u2, zI 43, u4, zI 2, u6, u7] [zL y] h (fun r h => KM r h Q)) r h Q)) (fun Q q => ?_) (fun Q q => ?_) ?_
  · rw [r_78_e (htx1 := ⟨by omega, by omega⟩) (hx := hx)]
    refine ⟨by omega, ?_⟩
    rw [show mm_sw 2 (mm_ro (94, 0, 0) 43) = 54 by decide]
    rw [r_78_54 (hx := hx)]
    rcases t1 with t | t
    · rw [if_neg (by rw [t]; decide), r_78_56 (hx := hx)]
      rw [t] at q
      refine mm_Clm (fun r h3 => ?_) q
      rintro ⟨y, rfl, ⟨g, dg, rfl⟩, q2⟩
      rw [mm_pI, r_78_56_1 (hx := hx)]
      exact q2
    · rw [if_pos (by rw [t]; decide), r_78_56 (hx := hx)]
      rw [t] at q
      refine mm_Clm (fun r h3 => ?_) q
      rintro ⟨y, rfl, ⟨g, dg, rfl⟩, q2⟩
      rw [mm_pI, r_78_56_1 (hx := hx)]
      exact q2
  · rw [r_292_6_5 (hy := hy), if_pos rfl]
    rw [if_neg (by omega), if_neg (by omega)]
    rw [r_286_e (hy := hy), show mm_sw 8 43 = 14 by decide]
    rw [r_286_14 (hy := hy), ← e0, ← e1]
    rcases t1 with t | t
    · rw [if_neg (by rw [t]; decide), r_286_16 (hy := hy)]
      rw [t] at q
      refine mm_Clm (fun r h3 => ?_) q
      rintro ⟨y, rfl, ⟨g, dg, rfl⟩, q2⟩
      rw [mm_pI, r_286_16_1 (hy := hy), mm_pL, r_292_9_3 (hy := hy)]
      exact q2
    · rw [if_pos (by rw [t]; decide), r_286_16 (hy := hy)]
      rw [t] at q
      refine mm_Clm (fun r h3 => ?_) q
      rintro ⟨y, rfl, ⟨g, dg, rfl⟩, q2⟩
      rw [mm_pI, r_286_16_1 (hy := hy), mm_pL, r_292_9_3 (hy := hy)]
      exact q2
  · refine kk_callJ (a := [zI (mm_w (A (12, 0, 0) 0)), zI (A (12, 0, 0) 1)]) (KC := fun r h Q => ∃ y, r = zI y ∧ (∃ g dg, h = mm_z g dg nx ns) ∧ KC (zL y) h Q) (KM := fun r h Q => ∃ y, r = zI y ∧ (∃ g dg, h = mm_z g dg nx ns) ∧ mm_Wp 292 (mm_blk 292 10) [zR (40, 0, 0), u1, u2, zI 43, u4, zI 2, u6, u7] [zL y] h (fun r h => KM r h Q)) hy l (by simp) (c_44 (hy := hy) (hc := l.1) (hb := hb) (ht := kk_wr) (hn := t1)) (fun r A2 d2 B2 sr l2 sA sB => ?_)
    obtain ⟨y, er, y0, y1⟩ := sr
    exact kk_J2 (fun Q q => ⟨y, er, ⟨A2, d2, rfl⟩, q⟩) (fun Q q => ⟨y, er, ⟨B2, dm, rfl⟩, q⟩) (K y A2 d2 B2 u6 u7 ⟨by omega, by omega⟩ l2 (sA _ _ (by simp [kk_scr]) (by decide)))
/-- scrub -/
theorem kk_do44 (hy : 5306 ≤ nx) {u1 u2 u4 u6 u7 : mm_V} (l : kk_L b z n A B d) (hb : b + 1 ≤ 1000000) (gv : kk_gv 44 1 A B)
    (K : ∀ v A2 d2 B2 v6 v7, (-9223372036854775808 ≤ v ∧ v < 9223372036854775808) → kk_L (b + 1) z n A2 B2 d2 → A2 (8, 0, 0) 10 = A (8, 0, 0) 10 → kk_J nx ns dm G (fun Q => KC (zL v) (mm_z A2 d2 nx ns) Q) (fun Q => mm_Wp 292 (mm_blk 292 10) [zR (40, 0, 0), u1, u2, zI 44, u4, zI 1, v6, v7] [zL v] (mm_z B2 dm nx ns) (fun r h => KM r h Q))) :
    kk_J nx ns dm G (fun Q => mm_Cl 78 [zR (1, 0, 0), zR (92, 44, 0), zR (12, 0, 0)] (mm_z A d nx ns) (fun r h => KC r h Q)) (fun Q => mm_Wp 292 (bk_292_6.drop 5) [zR (40, 0, 0), u1, u2, zI 44, u4, zI 1, u6, u7] [zI 0] (mm_z B dm nx ns) (fun r h => KM r h Q)) := by
  have hx : 5275 ≤ nx := by omega
  obtain ⟨e0, r0, k0⟩ := gv 0 (by omega) (by omega)
  have t0 := k0.2 (by decide +kernel)
  refine kk_J2 (P1 := fun Q => mm_Cl 45 (zR (1, 0, 0) :: [zI (A (12, 0, 0) 0)]) (mm_z A d nx ns) (fun r h => (fun r h Q => ∃ y, r = zI y ∧ (∃ g dg, h = mm_z g dg nx ns) ∧ KC (zL y) h Q) r h Q)) (P3 := fun Q => mm_Cl 273 (zR (40, 0, 0) :: [zI (A (12, 0, 0) 0)]) (mm_z B dm nx ns) (fun r h => (fun r h Q => ∃ y, r = zI y ∧ (∃ g dg, h = mm_z g dg nx ns) ∧ mm_Wp 292 (mm_blk 292 10) [zR (40, 0, 0), u1, u2, zI 44, u4, zI 1, u6, u7] [zL y] h (fun r h => KM r h Q)) r h Q)) (fun Q q => ?_) (fun Q q => ?_) ?_
  · rw [r_78_e (htx1 := ⟨by omega, by omega⟩) (hx := hx)]
    refine ⟨by omega, ?_⟩
    rw [show mm_sw 2 (mm_ro (94, 0, 0) 44) = 57 by decide]
    rw [r_78_57 (hx := hx)]
    rcases t0 with t | t
    · rw [if_neg (by rw [t]; decide), r_78_59 (hx := hx)]
      rw [t] at q
      refine mm_Clm (fun r h3 => ?_) q
      rintro ⟨y, rfl, ⟨g, dg, rfl⟩, q2⟩
      rw [mm_pI, r_78_59_1 (hx := hx)]
      exact q2
    · rw [if_pos (by rw [t]; decide), r_78_59 (hx := hx)]
      rw [t] at q
      refine mm_Clm (fun r h3 => ?_) q
      rintro ⟨y, rfl, ⟨g, dg, rfl⟩, q2⟩
      rw [mm_pI, r_78_59_1 (hx := hx)]
      exact q2
  · rw [r_292_6_5 (hy := hy), if_pos rfl]
    rw [if_neg (by omega), if_neg (by omega)]
    rw [r_286_e (hy := hy), show mm_sw 8 44 = 17 by decide]
    rw [r_286_17 (hy := hy), ← e0]
    rcases t0 with t | t
    · rw [if_neg (by rw [t]; decide), r_286_19 (hy := hy)]
      rw [t] at q
      refine mm_Clm (fun r h3 => ?_) q
      rintro ⟨y, rfl, ⟨g, dg, rfl⟩, q2⟩
      rw [mm_pI, r_286_19_1 (hy := hy), mm_pL, r_292_9_3 (hy := hy)]
      exact q2
    · rw [if_pos (by rw [t]; decide), r_286_19 (hy := hy)]
      rw [t] at q
      refine mm_Clm (fun r h3 => ?_) q
      rintro ⟨y, rfl, ⟨g, dg, rfl⟩, q2⟩
      rw [mm_pI, r_286_19_1 (hy := hy), mm_pL, r_292_9_3 (hy := hy)]
      exact q2
  · refine kk_callJ (a := [zI (A (12, 0, 0) 0)]) (KC := fun r h Q => ∃ y, r = zI y ∧ (∃ g dg, h = mm_z g dg nx ns) ∧ KC (zL y) h Q) (KM := fun r h Q => ∃ y, r = zI y ∧ (∃ g dg, h = mm_z g dg nx ns) ∧ mm_Wp 292 (mm_blk 292 10) [zR (40, 0, 0), u1, u2, zI 44, u4, zI 1, u6, u7] [zL y] h (fun r h => KM r h Q)) hy l (by simp) (c_45 (hy := hy) (hc := l.1) (hb := hb) (ht := t0)) (fun r A2 d2 B2 sr l2 sA sB => ?_)
    obtain ⟨y, er, y0, y1⟩ := sr
    exact kk_J2 (fun Q q => ⟨y, er, ⟨A2, d2, rfl⟩, q⟩) (fun Q q => ⟨y, er, ⟨B2, dm, rfl⟩, q⟩) (K y A2 d2 B2 u6 u7 ⟨by omega, by omega⟩ l2 (sA _ _ (by simp [kk_scr]) (by decide)))
/-- disk -/
theorem kk_do45 (hy : 5306 ≤ nx) {u1 u2 u4 u6 u7 : mm_V} (l : kk_L b z n A B d) (hb : b + 1 ≤ 1000000) (gv : kk_gv 45 1 A B)
    (K : ∀ v A2 d2 B2 v6 v7, (-9223372036854775808 ≤ v ∧ v < 9223372036854775808) → kk_L (b + 1) z n A2 B2 d2 → A2 (8, 0, 0) 10 = A (8, 0, 0) 10 → kk_J nx ns dm G (fun Q => KC (zL v) (mm_z A2 d2 nx ns) Q) (fun Q => mm_Wp 292 (mm_blk 292 10) [zR (40, 0, 0), u1, u2, zI 45, u4, zI 1, v6, v7] [zL v] (mm_z B2 dm nx ns) (fun r h => KM r h Q))) :
    kk_J nx ns dm G (fun Q => mm_Cl 78 [zR (1, 0, 0), zR (92, 45, 0), zR (12, 0, 0)] (mm_z A d nx ns) (fun r h => KC r h Q)) (fun Q => mm_Wp 292 (bk_292_6.drop 5) [zR (40, 0, 0), u1, u2, zI 45, u4, zI 1, u6, u7] [zI 0] (mm_z B dm nx ns) (fun r h => KM r h Q)) := by
  have hx : 5275 ≤ nx := by omega
  obtain ⟨e0, r0, k0⟩ := gv 0 (by omega) (by omega)
  refine kk_J2 (P1 := fun Q => mm_Cl 46 (zR (1, 0, 0) :: [zI (mm_w (A (12, 0, 0) 0))]) (mm_z A d nx ns) (fun r h => (fun r h Q => ∃ y, r = zI y ∧ (∃ g dg, h = mm_z g dg nx ns) ∧ KC (zL y) h Q) r h Q)) (P3 := fun Q => mm_Cl 274 (zR (40, 0, 0) :: [zI (mm_w (A (12, 0, 0) 0))]) (mm_z B dm nx ns) (fun r h => (fun r h Q => ∃ y, r = zI y ∧ (∃ g dg, h = mm_z g dg nx ns) ∧ mm_Wp 292 (mm_blk 292 10) [zR (40, 0, 0), u1, u2, zI 45, u4, zI 1, u6, u7] [zL y] h (fun r h => KM r h Q)) r h Q)) (fun Q q => ?_) (fun Q q => ?_) ?_
  · rw [r_78_e (htx1 := ⟨by omega, by omega⟩) (hx := hx)]
    refine ⟨by omega, ?_⟩
    rw [show mm_sw 2 (mm_ro (94, 0, 0) 45) = 60 by decide]
    rw [r_78_60 (hx := hx)]
    refine mm_Clm (fun r h3 => ?_) q
    rintro ⟨y, rfl, ⟨g, dg, rfl⟩, q2⟩
    rw [mm_pI, r_78_60_3 (hx := hx)]
    exact q2
  · rw [r_292_6_5 (hy := hy), if_pos rfl]
    rw [if_neg (by omega), if_neg (by omega)]
    rw [r_286_e (hy := hy), show mm_sw 8 45 = 20 by decide]
    rw [r_286_20 (hy := hy), ← e0]
    refine mm_Clm (fun r h3 => ?_) q
    rintro ⟨y, rfl, ⟨g, dg, rfl⟩, q2⟩
    rw [mm_pI, r_286_20_7 (hy := hy), mm_pL, r_292_9_3 (hy := hy)]
    exact q2
  · refine kk_callJ (a := [zI (mm_w (A (12, 0, 0) 0))]) (KC := fun r h Q => ∃ y, r = zI y ∧ (∃ g dg, h = mm_z g dg nx ns) ∧ KC (zL y) h Q) (KM := fun r h Q => ∃ y, r = zI y ∧ (∃ g dg, h = mm_z g dg nx ns) ∧ mm_Wp 292 (mm_blk 292 10) [zR (40, 0, 0), u1, u2, zI 45, u4, zI 1, u6, u7] [zL y] h (fun r h => KM r h Q)) hy l (by simp) (c_46 (hy := hy) (hc := l.1) (hb := hb) (ht := kk_wr)) (fun r A2 d2 B2 sr l2 sA sB => ?_)
    obtain ⟨y, er, y0, y1⟩ := sr
    exact kk_J2 (fun Q q => ⟨y, er, ⟨A2, d2, rfl⟩, q⟩) (fun Q q => ⟨y, er, ⟨B2, dm, rfl⟩, q⟩) (K y A2 d2 B2 u6 u7 ⟨by omega, by omega⟩ l2 (sA _ _ (by simp [kk_scr]) (by decide)))
/-- oddities -/
theorem kk_do46 (hy : 5306 ≤ nx) {u1 u2 u4 u6 u7 : mm_V} (l : kk_L b z n A B d) (hb : b + 1 ≤ 1000000) (gv : kk_gv 46 0 A B)
    (K : ∀ v A2 d2 B2 v6 v7, (-9223372036854775808 ≤ v ∧ v < 9223372036854775808) → kk_L (b + 1) z n A2 B2 d2 → A2 (8, 0, 0) 10 = A (8, 0, 0) 10 → kk_J nx ns dm G (fun Q => KC (zL v) (mm_z A2 d2 nx ns) Q) (fun Q => mm_Wp 292 (mm_blk 292 10) [zR (40, 0, 0), u1, u2, zI 46, u4, zI 0, v6, v7] [zL v] (mm_z B2 dm nx ns) (fun r h => KM r h Q))) :
    kk_J nx ns dm G (fun Q => mm_Cl 78 [zR (1, 0, 0), zR (92, 46, 0), zR (12, 0, 0)] (mm_z A d nx ns) (fun r h => KC r h Q)) (fun Q => mm_Wp 292 (bk_292_6.drop 5) [zR (40, 0, 0), u1, u2, zI 46, u4, zI 0, u6, u7] [zI 0] (mm_z B dm nx ns) (fun r h => KM r h Q)) := by
  have hx : 5275 ≤ nx := by omega
  refine kk_J2 (P1 := fun Q => mm_Cl 52 (zR (1, 0, 0) :: []) (mm_z A d nx ns) (fun r h => (fun r h Q => ∃ y, r = zI y ∧ (∃ g dg, h = mm_z g dg nx ns) ∧ KC (zL y) h Q) r h Q)) (P3 := fun Q => mm_Cl 275 (zR (40, 0, 0) :: []) (mm_z B dm nx ns) (fun r h => (fun r h Q => ∃ y, r = zI y ∧ (∃ g dg, h = mm_z g dg nx ns) ∧ mm_Wp 292 (mm_blk 292 10) [zR (40, 0, 0), u1, u2, zI 46, u4, zI 0, u6, u7] [zL y] h (fun r h => KM r h Q)) r h Q)) (fun Q q => ?_) (fun Q q => ?_) ?_
  · rw [r_78_e (htx1 := ⟨by omega, by omega⟩) (hx := hx)]
    refine ⟨by omega, ?_⟩
    rw [show mm_sw 2 (mm_ro (94, 0, 0) 46) = 61 by decide]
    rw [r_78_61 (hx := hx)]
    refine mm_Clm (fun r h3 => ?_) q
    rintro ⟨y, rfl, ⟨g, dg, rfl⟩, q2⟩
    rw [mm_pI, r_78_61_2 (hx := hx)]
    exact q2
  · rw [r_292_6_5 (hy := hy), if_pos rfl]
    rw [if_neg (by omega), if_neg (by omega)]
    rw [r_286_e (hy := hy), show mm_sw 8 46 = 21 by decide]
    rw [r_286_21 (hy := hy)]
    refine mm_Clm (fun r h3 => ?_) q
    rintro ⟨y, rfl, ⟨g, dg, rfl⟩, q2⟩
    rw [mm_pI, r_286_21_2 (hy := hy), mm_pL, r_292_9_3 (hy := hy)]
    exact q2
  · refine kk_callJ (a := []) (KC := fun r h Q => ∃ y, r = zI y ∧ (∃ g dg, h = mm_z g dg nx ns) ∧ KC (zL y) h Q) (KM := fun r h Q => ∃ y, r = zI y ∧ (∃ g dg, h = mm_z g dg nx ns) ∧ mm_Wp 292 (mm_blk 292 10) [zR (40, 0, 0), u1, u2, zI 46, u4, zI 0, u6, u7] [zL y] h (fun r h => KM r h Q)) hy l (by simp) (c_52 (hy := hy) (hc := l.1) (hb := hb)) (fun r A2 d2 B2 sr l2 sA sB => ?_)
    obtain ⟨y, er, y0, y1⟩ := sr
    exact kk_J2 (fun Q q => ⟨y, er, ⟨A2, d2, rfl⟩, q⟩) (fun Q q => ⟨y, er, ⟨B2, dm, rfl⟩, q⟩) (K y A2 d2 B2 u6 u7 ⟨by omega, by omega⟩ l2 (sA _ _ (by simp [kk_scr]) (by decide)))
end
