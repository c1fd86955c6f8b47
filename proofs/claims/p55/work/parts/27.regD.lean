/-! stretches of the code (printed by wip/whole/mkreg.py) -/
/-- PoolHouseModel.in(JJJ)Z -/
theorem bq_174_0 : mm_blk 174 0 = bk_174_0 := by decide +kernel
theorem bq_174_1 : mm_blk 174 1 = bk_174_1 := by decide +kernel
theorem bq_174_2 : mm_blk 174 2 = bk_174_2 := by decide +kernel
theorem r_174_e (x0 : Int) (x1 : Int) (x2 : Int) {hi : mm_Id → Int → Int} {dh : Int → Int} {nx ns : Int} {Q : mm_V → mm_H → Prop} (hy : 10581 ≤ nx) :
    mm_Cl 174 [zL x0, zL x1, zL x2] (mm_z hi dh nx ns) Q =
    (if (mm_cmp x0 x1) < 0 then mm_Wp 174 (mm_blk 174 1) [zL x0, zU, zL x1, zU, zL x2, zU] [] (mm_z hi dh nx ns) Q else (if 0 < (mm_cmp x0 x2) then mm_Wp 174 (mm_blk 174 1) [zL x0, zU, zL x1, zU, zL x2, zU] [] (mm_z hi dh nx ns) Q else mm_Wp 174 (mm_blk 174 2) [zL x0, zU, zL x1, zU, zL x2, zU] [zI 1] (mm_z hi dh nx ns) Q)) :=
  mm_ce (l2 := [zL x0, zU, zL x1, zU, zL x2, zU]) rfl (mm_kb bq_174_0 ((wp_4_0).trans ((wp_4_2).trans ((wp_34).trans ((wp_42).trans (mm_ic (rfl) ((wp_4_0).trans ((wp_4_4).trans ((wp_34).trans ((wp_44).trans (mm_ic (rfl) ((wp_1).trans ((wp_56).trans (rfl))))))))))))))
theorem r_174_1 (x0 : Int) (x2 : Int) (x4 : Int) {hi : mm_Id → Int → Int} {dh : Int → Int} {nx ns : Int} {Q : mm_V → mm_H → Prop} (hy : 10581 ≤ nx) :
    mm_Wp 174 (mm_blk 174 1) [zL x0, zU, zL x2, zU, zL x4, zU] [] (mm_z hi dh nx ns) Q =
    mm_Wp 174 (mm_blk 174 2) [zL x0, zU, zL x2, zU, zL x4, zU] [zI 0] (mm_z hi dh nx ns) Q :=
  mm_kb bq_174_1 ((wp_1).trans ((wp_0).trans (rfl)))
theorem r_174_2 (x0 : Int) (x2 : Int) (x4 : Int) (y0 : Int) {hi : mm_Id → Int → Int} {dh : Int → Int} {nx ns : Int} {Q : mm_V → mm_H → Prop} (hy : 10581 ≤ nx) :
    mm_Wp 174 (mm_blk 174 2) [zL x0, zU, zL x2, zU, zL x4, zU] [zI y0] (mm_z hi dh nx ns) Q =
    ((y0 = 0 ∨ y0 = 1) ∧ Q (zI y0) (mm_z hi dh nx ns)) :=
  mm_kb bq_174_2 (wp_94z)
/-- PoolHouseModel.at(II)I -/
theorem bq_175_0 : mm_blk 175 0 = bk_175_0 := by decide +kernel
theorem r_175_e (x0 : Int) (x1 : Int) {hi : mm_Id → Int → Int} {dh : Int → Int} {nx ns : Int} {Q : mm_V → mm_H → Prop} (hy : 10581 ≤ nx) :
    mm_Cl 175 [zI x0, zI x1] (mm_z hi dh nx ns) Q =
    Q (zI (mm_w ((mm_w ((mm_w (36 * x0)) + x1)) - 1))) (mm_z hi dh nx ns) :=
  mm_ce (l2 := [zI x0, zI x1]) rfl (mm_kb bq_175_0 ((wp_1).trans ((wp_3_0).trans ((wp_12).trans ((wp_3_1).trans ((wp_10).trans ((wp_1).trans ((wp_11).trans (wp_90)))))))))
/-- PoolHouseModel.has(II)Z -/
theorem bq_176_0 : mm_blk 176 0 = bk_176_0 := by decide +kernel
theorem bq_176_1 : mm_blk 176 1 = bk_176_1 := by decide +kernel
theorem bq_176_2 : mm_blk 176 2 = bk_176_2 := by decide +kernel
theorem r_176_e (x1 : Int) (x2 : Int) {hi : mm_Id → Int → Int} {dh : Int → Int} {nx ns : Int} {Q : mm_V → mm_H → Prop} (hy : 10581 ≤ nx) :
    mm_Cl 176 [zR (40, 0, 0), zI x1, zI x2] (mm_z hi dh nx ns) Q =
    mm_Cl 174 [zL x2, zL 1, zL 36] (mm_z hi dh nx ns) (fun r h3 => mm_Wp 176 (bk_176_0.drop 5) [zR (40, 0, 0), zI x1, zI x2] (mm_push r []) h3 Q) :=
  mm_ce (l2 := [zR (40, 0, 0), zI x1, zI x2]) rfl (mm_kb bq_176_0 ((wp_3_2).trans ((wp_31).trans ((wp_2).trans ((wp_2).trans ((wp_s3 mm_n_174 (mm_leq mm_m_174 (mm_lb rfl)) (mm_lb rfl)).trans rfl))))))
theorem r_176_0_5 (x1 : Int) (x2 : Int) (y0 : Int) {hi : mm_Id → Int → Int} {dh : Int → Int} {nx ns : Int} {Q : mm_V → mm_H → Prop} (hy : 10581 ≤ nx) :
    mm_Wp 176 (bk_176_0.drop 5) [zR (40, 0, 0), zI x1, zI x2] [zI y0] (mm_z hi dh nx ns) Q =
    (if y0 = 0 then mm_Wp 176 (mm_blk 176 1) [zR (40, 0, 0), zI x1, zI x2] [] (mm_z hi dh nx ns) Q else mm_Cl 175 [zI x1, zI x2] (mm_z hi dh nx ns) (fun r h3 => mm_Wp 176 (bk_176_0.drop 11) [zR (40, 0, 0), zI x1, zI x2] (mm_push r [zR (41, 0, 0)]) h3 Q)) :=
  (wp_40).trans (mm_ic (rfl) ((wp_5_0).trans ((wp_62 (by decide) (mm_o40 hy) (mm_r40_2 hy)).trans ((wp_3_1).trans ((wp_3_2).trans ((wp_s2 mm_n_175 (mm_leq mm_m_175 (mm_lb rfl)) (mm_lb rfl)).trans rfl))))))
theorem r_176_1 (vx0 : mm_V) (vx1 : mm_V) (vx2 : mm_V) {hi : mm_Id → Int → Int} {dh : Int → Int} {nx ns : Int} {Q : mm_V → mm_H → Prop} (hy : 10581 ≤ nx) :
    mm_Wp 176 (mm_blk 176 1) [vx0, vx1, vx2] [] (mm_z hi dh nx ns) Q =
    mm_Wp 176 (mm_blk 176 2) [vx0, vx1, vx2] [zI 0] (mm_z hi dh nx ns) Q :=
  mm_kb bq_176_1 ((wp_1).trans ((wp_0).trans (rfl)))
theorem r_176_0_11 (vx0 : mm_V) (vx1 : mm_V) (vx2 : mm_V) (y0 : Int) {hi : mm_Id → Int → Int} {dh : Int → Int} {nx ns : Int} {Q : mm_V → mm_H → Prop} (hy : 10581 ≤ nx) :
    mm_Wp 176 (bk_176_0.drop 11) [vx0, vx1, vx2] [zI y0, zR (41, 0, 0)] (mm_z hi dh nx ns) Q =
    ((0 ≤ y0 ∧ y0 < 1044) ∧ (if 0 < (hi (41, 0, 0) y0) then mm_Wp 176 (mm_blk 176 2) [vx0, vx1, vx2] [zI 1] (mm_z hi dh nx ns) Q else mm_Wp 176 (mm_blk 176 1) [vx0, vx1, vx2] [] (mm_z hi dh nx ns) Q)) :=
  (wp_70 (mm_q41 hy)).trans (mm_ae ((wp_45).trans (mm_ic ((wp_1).trans ((wp_56).trans (rfl))) (rfl))))
theorem r_176_2 (vx0 : mm_V) (vx1 : mm_V) (vx2 : mm_V) (y0 : Int) {hi : mm_Id → Int → Int} {dh : Int → Int} {nx ns : Int} {Q : mm_V → mm_H → Prop} (hy : 10581 ≤ nx) :
    mm_Wp 176 (mm_blk 176 2) [vx0, vx1, vx2] [zI y0] (mm_z hi dh nx ns) Q =
    ((y0 = 0 ∨ y0 = 1) ∧ Q (zI y0) (mm_z hi dh nx ns)) :=
  mm_kb bq_176_2 (wp_94z)
/-- PoolHouseModel.isFile(II)Z -/
theorem bq_177_0 : mm_blk 177 0 = bk_177_0 := by decide +kernel
theorem bq_177_1 : mm_blk 177 1 = bk_177_1 := by decide +kernel
theorem bq_177_2 : mm_blk 177 2 = bk_177_2 := by decide +kernel
theorem r_177_e (x1 : Int) (x2 : Int) {hi : mm_Id → Int → Int} {dh : Int → Int} {nx ns : Int} {Q : mm_V → mm_H → Prop} (hy : 10581 ≤ nx) :
    mm_Cl 177 [zR (40, 0, 0), zI x1, zI x2] (mm_z hi dh nx ns) Q =
    mm_Cl 175 [zI x1, zI x2] (mm_z hi dh nx ns) (fun r h3 => mm_Wp 177 (bk_177_0.drop 5) [zR (40, 0, 0), zI x1, zI x2] (mm_push r [zR (41, 0, 0)]) h3 Q) :=
  mm_ce (l2 := [zR (40, 0, 0), zI x1, zI x2]) rfl (mm_kb bq_177_0 ((wp_5_0).trans ((wp_62 (by decide) (mm_o40 hy) (mm_r40_2 hy)).trans ((wp_3_1).trans ((wp_3_2).trans ((wp_s2 mm_n_175 (mm_leq mm_m_175 (mm_lb rfl)) (mm_lb rfl)).trans rfl))))))
theorem r_177_0_5 (vx0 : mm_V) (vx1 : mm_V) (vx2 : mm_V) (y0 : Int) {hi : mm_Id → Int → Int} {dh : Int → Int} {nx ns : Int} {Q : mm_V → mm_H → Prop} (hy : 10581 ≤ nx) :
    mm_Wp 177 (bk_177_0.drop 5) [vx0, vx1, vx2] [zI y0, zR (41, 0, 0)] (mm_z hi dh nx ns) Q =
    ((0 ≤ y0 ∧ y0 < 1044) ∧ (if (hi (41, 0, 0) y0) = 1 then mm_Wp 177 (mm_blk 177 2) [vx0, vx1, vx2] [zI 1] (mm_z hi dh nx ns) Q else mm_Wp 177 (mm_blk 177 2) [vx0, vx1, vx2] [zI 0] (mm_z hi dh nx ns) Q)) :=
  (wp_70 (mm_q41 hy)).trans (mm_ae ((wp_1).trans ((wp_47).trans (mm_ic ((wp_1).trans ((wp_56).trans (rfl))) (mm_kb bq_177_1 ((wp_1).trans ((wp_0).trans (rfl))))))))
theorem r_177_2 (vx0 : mm_V) (vx1 : mm_V) (vx2 : mm_V) (y0 : Int) {hi : mm_Id → Int → Int} {dh : Int → Int} {nx ns : Int} {Q : mm_V → mm_H → Prop} (hy : 10581 ≤ nx) :
    mm_Wp 177 (mm_blk 177 2) [vx0, vx1, vx2] [zI y0] (mm_z hi dh nx ns) Q =
    ((y0 = 0 ∨ y0 = 1) ∧ Q (zI y0) (mm_z hi dh nx ns)) :=
  mm_kb bq_177_2 (wp_94z)
/-- PoolHouseModel.copyNode(II)V -/
theorem bq_178_0 : mm_blk 178 0 = bk_178_0 := by decide +kernel
theorem bq_178_1 : mm_blk 178 1 = bk_178_1 := by decide +kernel
theorem bq_178_2 : mm_blk 178 2 = bk_178_2 := by decide +kernel
theorem bq_178_3 : mm_blk 178 3 = bk_178_3 := by decide +kernel
theorem bq_178_4 : mm_blk 178 4 = bk_178_4 := by decide +kernel
theorem bq_178_5 : mm_blk 178 5 = bk_178_5 := by decide +kernel
theorem bq_178_6 : mm_blk 178 6 = bk_178_6 := by decide +kernel
theorem bq_178_7 : mm_blk 178 7 = bk_178_7 := by decide +kernel
theorem bq_178_8 : mm_blk 178 8 = bk_178_8 := by decide +kernel
theorem r_178_e (x1 : Int) (x2 : Int) {hi : mm_Id → Int → Int} {dh : Int → Int} {nx ns : Int} {Q : mm_V → mm_H → Prop} (hy : 10581 ≤ nx) :
    mm_Cl 178 [zR (40, 0, 0), zI x1, zI x2] (mm_z hi dh nx ns) Q =
    ((0 ≤ x1 ∧ x1 < 1044) ∧ ((0 ≤ x2 ∧ x2 < 1044) ∧ ((0 ≤ x1 ∧ x1 < 1044) ∧ ((0 ≤ x2 ∧ x2 < 1044) ∧ ((0 ≤ x1 ∧ x1 < 1044) ∧ ((0 ≤ x2 ∧ x2 < 1044) ∧ ((0 ≤ x1 ∧ x1 < 1044) ∧ ((0 ≤ x2 ∧ x2 < 1044) ∧ ((0 ≤ x1 ∧ x1 < 1044) ∧ ((0 ≤ x2 ∧ x2 < 1044) ∧ ((0 ≤ x1 ∧ x1 < 1044) ∧ (((((mm_up (mm_up (mm_up (mm_up (mm_up hi (41, 0, 0) x2 (hi (41, 0, 0) x1)) (42, 0, 0) x2 ((mm_up hi (41, 0, 0) x2 (hi (41, 0, 0) x1)) (42, 0, 0) x1)) (44, 0, 0) x2 ((mm_up (mm_up hi (41, 0, 0) x2 (hi (41, 0, 0) x1)) (42, 0, 0) x2 ((mm_up hi (41, 0, 0) x2 (hi (41, 0, 0) x1)) (42, 0, 0) x1)) (44, 0, 0) x1)) (47, 0, 0) x2 ((mm_up (mm_up (mm_up hi (41, 0, 0) x2 (hi (41, 0, 0) x1)) (42, 0, 0) x2 ((mm_up hi (41, 0, 0) x2 (hi (41, 0, 0) x1)) (42, 0, 0) x1)) (44, 0, 0) x2 ((mm_up (mm_up hi (41, 0, 0) x2 (hi (41, 0, 0) x1)) (42, 0, 0) x2 ((mm_up hi (41, 0, 0) x2 (hi (41, 0, 0) x1)) (42, 0, 0) x1)) (44, 0, 0) x1)) (47, 0, 0) x1)) (48, 0, 0) x2 ((mm_up (mm_up (mm_up (mm_up hi (41, 0, 0) x2 (hi (41, 0, 0) x1)) (42, 0, 0) x2 ((mm_up hi (41, 0, 0) x2 (hi (41, 0, 0) x1)) (42, 0, 0) x1)) (44, 0, 0) x2 ((mm_up (mm_up hi (41, 0, 0) x2 (hi (41, 0, 0) x1)) (42, 0, 0) x2 ((mm_up hi (41, 0, 0) x2 (hi (41, 0, 0) x1)) (42, 0, 0) x1)) (44, 0, 0) x1)) (47, 0, 0) x2 ((mm_up (mm_up (mm_up hi (41, 0, 0) x2 (hi (41, 0, 0) x1)) (42, 0, 0) x2 ((mm_up hi (41, 0, 0) x2 (hi (41, 0, 0) x1)) (42, 0, 0) x1)) (44, 0, 0) x2 ((mm_up (mm_up hi (41, 0, 0) x2 (hi (41, 0, 0) x1)) (42, 0, 0) x2 ((mm_up hi (41, 0, 0) x2 (hi (41, 0, 0) x1)) (42, 0, 0) x1)) (44, 0, 0) x1)) (47, 0, 0) x1)) (48, 0, 0) x1)) (53, 0, 0) x1) = 0 ∨ ((mm_up (mm_up (mm_up (mm_up (mm_up hi (41, 0, 0) x2 (hi (41, 0, 0) x1)) (42, 0, 0) x2 ((mm_up hi (41, 0, 0) x2 (hi (41, 0, 0) x1)) (42, 0, 0) x1)) (44, 0, 0) x2 ((mm_up (mm_up hi (41, 0, 0) x2 (hi (41, 0, 0) x1)) (42, 0, 0) x2 ((mm_up hi (41, 0, 0) x2 (hi (41, 0, 0) x1)) (42, 0, 0) x1)) (44, 0, 0) x1)) (47, 0, 0) x2 ((mm_up (mm_up (mm_up hi (41, 0, 0) x2 (hi (41, 0, 0) x1)) (42, 0, 0) x2 ((mm_up hi (41, 0, 0) x2 (hi (41, 0, 0) x1)) (42, 0, 0) x1)) (44, 0, 0) x2 ((mm_up (mm_up hi (41, 0, 0) x2 (hi (41, 0, 0) x1)) (42, 0, 0) x2 ((mm_up hi (41, 0, 0) x2 (hi (41, 0, 0) x1)) (42, 0, 0) x1)) (44, 0, 0) x1)) (47, 0, 0) x1)) (48, 0, 0) x2 ((mm_up (mm_up (mm_up (mm_up hi (41, 0, 0) x2 (hi (41, 0, 0) x1)) (42, 0, 0) x2 ((mm_up hi (41, 0, 0) x2 (hi (41, 0, 0) x1)) (42, 0, 0) x1)) (44, 0, 0) x2 ((mm_up (mm_up hi (41, 0, 0) x2 (hi (41, 0, 0) x1)) (42, 0, 0) x2 ((mm_up hi (41, 0, 0) x2 (hi (41, 0, 0) x1)) (42, 0, 0) x1)) (44, 0, 0) x1)) (47, 0, 0) x2 ((mm_up (mm_up (mm_up hi (41, 0, 0) x2 (hi (41, 0, 0) x1)) (42, 0, 0) x2 ((mm_up hi (41, 0, 0) x2 (hi (41, 0, 0) x1)) (42, 0, 0) x1)) (44, 0, 0) x2 ((mm_up (mm_up hi (41, 0, 0) x2 (hi (41, 0, 0) x1)) (42, 0, 0) x2 ((mm_up hi (41, 0, 0) x2 (hi (41, 0, 0) x1)) (42, 0, 0) x1)) (44, 0, 0) x1)) (47, 0, 0) x1)) (48, 0, 0) x1)) (53, 0, 0) x1) = 1) ∧ 0 ≤ x2 ∧ x2 < 1044) ∧ ((0 ≤ x1 ∧ x1 < 1044) ∧ ((0 ≤ x2 ∧ x2 < 1044) ∧ mm_Wp 178 (mm_blk 178 1) [zR (40, 0, 0), zI x1, zI x2, zI 0] [] (mm_z (mm_up (mm_up (mm_up (mm_up (mm_up (mm_up (mm_up hi (41, 0, 0) x2 (hi (41, 0, 0) x1)) (42, 0, 0) x2 ((mm_up hi (41, 0, 0) x2 (hi (41, 0, 0) x1)) (42, 0, 0) x1)) (44, 0, 0) x2 ((mm_up (mm_up hi (41, 0, 0) x2 (hi (41, 0, 0) x1)) (42, 0, 0) x2 ((mm_up hi (41, 0, 0) x2 (hi (41, 0, 0) x1)) (42, 0, 0) x1)) (44, 0, 0) x1)) (47, 0, 0) x2 ((mm_up (mm_up (mm_up hi (41, 0, 0) x2 (hi (41, 0, 0) x1)) (42, 0, 0) x2 ((mm_up hi (41, 0, 0) x2 (hi (41, 0, 0) x1)) (42, 0, 0) x1)) (44, 0, 0) x2 ((mm_up (mm_up hi (41, 0, 0) x2 (hi (41, 0, 0) x1)) (42, 0, 0) x2 ((mm_up hi (41, 0, 0) x2 (hi (41, 0, 0) x1)) (42, 0, 0) x1)) (44, 0, 0) x1)) (47, 0, 0) x1)) (48, 0, 0) x2 ((mm_up (mm_up (mm_up (mm_up hi (41, 0, 0) x2 (hi (41, 0, 0) x1)) (42, 0, 0) x2 ((mm_up hi (41, 0, 0) x2 (hi (41, 0, 0) x1)) (42, 0, 0) x1)) (44, 0, 0) x2 ((mm_up (mm_up hi (41, 0, 0) x2 (hi (41, 0, 0) x1)) (42, 0, 0) x2 ((mm_up hi (41, 0, 0) x2 (hi (41, 0, 0) x1)) (42, 0, 0) x1)) (44, 0, 0) x1)) (47, 0, 0) x2 ((mm_up (mm_up (mm_up hi (41, 0, 0) x2 (hi (41, 0, 0) x1)) (42, 0, 0) x2 ((mm_up hi (41, 0, 0) x2 (hi (41, 0, 0) x1)) (42, 0, 0) x1)) (44, 0, 0) x2 ((mm_up (mm_up hi (41, 0, 0) x2 (hi (41, 0, 0) x1)) (42, 0, 0) x2 ((mm_up hi (41, 0, 0) x2 (hi (41, 0, 0) x1)) (42, 0, 0) x1)) (44, 0, 0) x1)) (47, 0, 0) x1)) (48, 0, 0) x1)) (53, 0, 0) x2 ((mm_up (mm_up (mm_up (mm_up (mm_up hi (41, 0, 0) x2 (hi (41, 0, 0) x1)) (42, 0, 0) x2 ((mm_up hi (41, 0, 0) x2 (hi (41, 0, 0) x1)) (42, 0, 0) x1)) (44, 0, 0) x2 ((mm_up (mm_up hi (41, 0, 0) x2 (hi (41, 0, 0) x1)) (42, 0, 0) x2 ((mm_up hi (41, 0, 0) x2 (hi (41, 0, 0) x1)) (42, 0, 0) x1)) (44, 0, 0) x1)) (47, 0, 0) x2 ((mm_up (mm_up (mm_up hi (41, 0, 0) x2 (hi (41, 0, 0) x1)) (42, 0, 0) x2 ((mm_up hi (41, 0, 0) x2 (hi (41, 0, 0) x1)) (42, 0, 0) x1)) (44, 0, 0) x2 ((mm_up (mm_up hi (41, 0, 0) x2 (hi (41, 0, 0) x1)) (42, 0, 0) x2 ((mm_up hi (41, 0, 0) x2 (hi (41, 0, 0) x1)) (42, 0, 0) x1)) (44, 0, 0) x1)) (47, 0, 0) x1)) (48, 0, 0) x2 ((mm_up (mm_up (mm_up (mm_up hi (41, 0, 0) x2 (hi (41, 0, 0) x1)) (42, 0, 0) x2 ((mm_up hi (41, 0, 0) x2 (hi (41, 0, 0) x1)) (42, 0, 0) x1)) (44, 0, 0) x2 ((mm_up (mm_up hi (41, 0, 0) x2 (hi (41, 0, 0) x1)) (42, 0, 0) x2 ((mm_up hi (41, 0, 0) x2 (hi (41, 0, 0) x1)) (42, 0, 0) x1)) (44, 0, 0) x1)) (47, 0, 0) x2 ((mm_up (mm_up (mm_up hi (41, 0, 0) x2 (hi (41, 0, 0) x1)) (42, 0, 0) x2 ((mm_up hi (41, 0, 0) x2 (hi (41, 0, 0) x1)) (42, 0, 0) x1)) (44, 0, 0) x2 ((mm_up (mm_up hi (41, 0, 0) x2 (hi (41, 0, 0) x1)) (42, 0, 0) x2 ((mm_up hi (41, 0, 0) x2 (hi (41, 0, 0) x1)) (42, 0, 0) x1)) (44, 0, 0) x1)) (47, 0, 0) x1)) (48, 0, 0) x1)) (53, 0, 0) x1)) (49, 0, 0) x2 ((mm_up (mm_up (mm_up (mm_up (mm_up (mm_up hi (41, 0, 0) x2 (hi (41, 0, 0) x1)) (42, 0, 0) x2 ((mm_up hi (41, 0, 0) x2 (hi (41, 0, 0) x1)) (42, 0, 0) x1)) (44, 0, 0) x2 ((mm_up (mm_up hi (41, 0, 0) x2 (hi (41, 0, 0) x1)) (42, 0, 0) x2 ((mm_up hi (41, 0, 0) x2 (hi (41, 0, 0) x1)) (42, 0, 0) x1)) (44, 0, 0) x1)) (47, 0, 0) x2 ((mm_up (mm_up (mm_up hi (41, 0, 0) x2 (hi (41, 0, 0) x1)) (42, 0, 0) x2 ((mm_up hi (41, 0, 0) x2 (hi (41, 0, 0) x1)) (42, 0, 0) x1)) (44, 0, 0) x2 ((mm_up (mm_up hi (41, 0, 0) x2 (hi (41, 0, 0) x1)) (42, 0, 0) x2 ((mm_up hi (41, 0, 0) x2 (hi (41, 0, 0) x1)) (42, 0, 0) x1)) (44, 0, 0) x1)) (47, 0, 0) x1)) (48, 0, 0) x2 ((mm_up (mm_up (mm_up (mm_up hi (41, 0, 0) x2 (hi (41, 0, 0) x1)) (42, 0, 0) x2 ((mm_up hi (41, 0, 0) x2 (hi (41, 0, 0) x1)) (42, 0, 0) x1)) (44, 0, 0) x2 ((mm_up (mm_up hi (41, 0, 0) x2 (hi (41, 0, 0) x1)) (42, 0, 0) x2 ((mm_up hi (41, 0, 0) x2 (hi (41, 0, 0) x1)) (42, 0, 0) x1)) (44, 0, 0) x1)) (47, 0, 0) x2 ((mm_up (mm_up (mm_up hi (41, 0, 0) x2 (hi (41, 0, 0) x1)) (42, 0, 0) x2 ((mm_up hi (41, 0, 0) x2 (hi (41, 0, 0) x1)) (42, 0, 0) x1)) (44, 0, 0) x2 ((mm_up (mm_up hi (41, 0, 0) x2 (hi (41, 0, 0) x1)) (42, 0, 0) x2 ((mm_up hi (41, 0, 0) x2 (hi (41, 0, 0) x1)) (42, 0, 0) x1)) (44, 0, 0) x1)) (47, 0, 0) x1)) (48, 0, 0) x1)) (53, 0, 0) x2 ((mm_up (mm_up (mm_up (mm_up (mm_up hi (41, 0, 0) x2 (hi (41, 0, 0) x1)) (42, 0, 0) x2 ((mm_up hi (41, 0, 0) x2 (hi (41, 0, 0) x1)) (42, 0, 0) x1)) (44, 0, 0) x2 ((mm_up (mm_up hi (41, 0, 0) x2 (hi (41, 0, 0) x1)) (42, 0, 0) x2 ((mm_up hi (41, 0, 0) x2 (hi (41, 0, 0) x1)) (42, 0, 0) x1)) (44, 0, 0) x1)) (47, 0, 0) x2 ((mm_up (mm_up (mm_up hi (41, 0, 0) x2 (hi (41, 0, 0) x1)) (42, 0, 0) x2 ((mm_up hi (41, 0, 0) x2 (hi (41, 0, 0) x1)) (42, 0, 0) x1)) (44, 0, 0) x2 ((mm_up (mm_up hi (41, 0, 0) x2 (hi (41, 0, 0) x1)) (42, 0, 0) x2 ((mm_up hi (41, 0, 0) x2 (hi (41, 0, 0) x1)) (42, 0, 0) x1)) (44, 0, 0) x1)) (47, 0, 0) x1)) (48, 0, 0) x2 ((mm_up (mm_up (mm_up (mm_up hi (41, 0, 0) x2 (hi (41, 0, 0) x1)) (42, 0, 0) x2 ((mm_up hi (41, 0, 0) x2 (hi (41, 0, 0) x1)) (42, 0, 0) x1)) (44, 0, 0) x2 ((mm_up (mm_up hi (41, 0, 0) x2 (hi (41, 0, 0) x1)) (42, 0, 0) x2 ((mm_up hi (41, 0, 0) x2 (hi (41, 0, 0) x1)) (42, 0, 0) x1)) (44, 0, 0) x1)) (47, 0, 0) x2 ((mm_up (mm_up (mm_up hi (41, 0, 0) x2 (hi (41, 0, 0) x1)) (42, 0, 0) x2 ((mm_up hi (41, 0, 0) x2 (hi (41, 0, 0) x1)) (42, 0, 0) x1)) (44, 0, 0) x2 ((mm_up (mm_up hi (41, 0, 0) x2 (hi (41, 0, 0) x1)) (42, 0, 0) x2 ((mm_up hi (41, 0, 0) x2 (hi (41, 0, 0) x1)) (42, 0, 0) x1)) (44, 0, 0) x1)) (47, 0, 0) x1)) (48, 0, 0) x1)) (53, 0, 0) x1)) (49, 0, 0) x1)) dh nx ns) Q)))))))))))))) :=
  mm_ce (l2 := [zR (40, 0, 0), zI x1, zI x2, zU]) rfl (mm_kb bq_178_0 ((wp_5_0).trans ((wp_62 (by decide) (mm_o40 hy) (mm_r40_2 hy)).trans ((wp_3_2).trans ((wp_5_0).trans ((wp_62 (by decide) (mm_o40 hy) (mm_r40_2 hy)).trans ((wp_3_1).trans ((wp_70 (mm_q41 hy)).trans (mm_ae ((wp_74 (mm_q41 hy)).trans (mm_ae ((wp_5_0).trans ((wp_62 (by decide) (mm_o40 hy) (mm_r40_3 hy)).trans ((wp_3_2).trans ((wp_5_0).trans ((wp_62 (by decide) (mm_o40 hy) (mm_r40_3 hy)).trans ((wp_3_1).trans ((wp_70 (mm_q42 hy)).trans (mm_ae ((wp_74 (mm_q42 hy)).trans (mm_ae ((wp_5_0).trans ((wp_62 (by decide) (mm_o40 hy) (mm_r40_5 hy)).trans ((wp_3_2).trans ((wp_5_0).trans ((wp_62 (by decide) (mm_o40 hy) (mm_r40_5 hy)).trans ((wp_3_1).trans ((wp_70 (mm_q44 hy)).trans (mm_ae ((wp_74 (mm_q44 hy)).trans (mm_ae ((wp_5_0).trans ((wp_62 (by decide) (mm_o40 hy) (mm_r40_8 hy)).trans ((wp_3_2).trans ((wp_5_0).trans ((wp_62 (by decide) (mm_o40 hy) (mm_r40_8 hy)).trans ((wp_3_1).trans ((wp_70 (mm_q47 hy)).trans (mm_ae ((wp_74 (mm_q47 hy)).trans (mm_ae ((wp_5_0).trans ((wp_62 (by decide) (mm_o40 hy) (mm_r40_9 hy)).trans ((wp_3_2).trans ((wp_5_0).trans ((wp_62 (by decide) (mm_o40 hy) (mm_r40_9 hy)).trans ((wp_3_1).trans ((wp_70 (mm_q48 hy)).trans (mm_ae ((wp_74 (mm_q48 hy)).trans (mm_ae ((wp_5_0).trans ((wp_62 (by decide) (mm_o40 hy) (mm_r40_14 hy)).trans ((wp_3_2).trans ((wp_5_0).trans ((wp_62 (by decide) (mm_o40 hy) (mm_r40_14 hy)).trans ((wp_3_1).trans ((wp_71z (mm_q53 hy)).trans (mm_ae ((wp_75zv (mm_q53 hy)).trans (mm_ae ((wp_5_0).trans ((wp_62 (by decide) (mm_o40 hy) (mm_r40_10 hy)).trans ((wp_3_2).trans ((wp_5_0).trans ((wp_62 (by decide) (mm_o40 hy) (mm_r40_10 hy)).trans ((wp_3_1).trans ((wp_70 (mm_q49 hy)).trans (mm_ae ((wp_74 (mm_q49 hy)).trans (mm_ae ((wp_1).trans ((wp_6 (l2 := [zR (40, 0, 0), zI x1, zI x2, zI 0]) rfl).trans ((wp_0).trans (rfl)))))))))))))))))))))))))))))))))))))))))))))))))))))))))))))))))))))))))))
theorem r_178_1 (x1 : Int) (x2 : Int) (x3 : Int) {hi : mm_Id → Int → Int} {dh : Int → Int} {nx ns : Int} {Q : mm_V → mm_H → Prop} (hy : 10581 ≤ nx) :
    mm_Wp 178 (mm_blk 178 1) [zR (40, 0, 0), zI x1, zI x2, zI x3] [] (mm_z hi dh nx ns) Q =
    ((0 ≤ x1 ∧ x1 < 1044) ∧ (if x3 < (hi (49, 0, 0) x1) then ((0 ≤ (mm_w ((mm_w (4 * x1)) + x3)) ∧ (mm_w ((mm_w (4 * x1)) + x3)) < 4176) ∧ ((0 ≤ (mm_w ((mm_w (4 * x2)) + x3)) ∧ (mm_w ((mm_w (4 * x2)) + x3)) < 4176) ∧ ((0 ≤ (mm_w ((mm_w (4 * x1)) + x3)) ∧ (mm_w ((mm_w (4 * x1)) + x3)) < 4176) ∧ ((0 ≤ (mm_w ((mm_w (4 * x2)) + x3)) ∧ (mm_w ((mm_w (4 * x2)) + x3)) < 4176) ∧ mm_Wp 178 (mm_blk 178 1) [zR (40, 0, 0), zI x1, zI x2, zI (mm_w (x3 + 1))] [] (mm_z (mm_up (mm_up hi (50, 0, 0) (mm_w ((mm_w (4 * x2)) + x3)) (hi (50, 0, 0) (mm_w ((mm_w (4 * x1)) + x3)))) (51, 0, 0) (mm_w ((mm_w (4 * x2)) + x3)) ((mm_up hi (50, 0, 0) (mm_w ((mm_w (4 * x2)) + x3)) (hi (50, 0, 0) (mm_w ((mm_w (4 * x1)) + x3)))) (51, 0, 0) (mm_w ((mm_w (4 * x1)) + x3)))) dh nx ns) Q)))) else mm_Wp 178 (mm_blk 178 3) [zR (40, 0, 0), zI x1, zI x2, zI 0] [] (mm_z hi dh nx ns) Q)) :=
  mm_kb bq_178_1 ((wp_3_3).trans ((wp_5_0).trans ((wp_62 (by decide) (mm_o40 hy) (mm_r40_10 hy)).trans ((wp_3_1).trans ((wp_70 (mm_q49 hy)).trans (mm_ae ((wp_49).trans (mm_ic ((wp_5_0).trans ((wp_62 (by decide) (mm_o40 hy) (mm_r40_11 hy)).trans ((wp_1).trans ((wp_3_2).trans ((wp_12).trans ((wp_3_3).trans ((wp_10).trans ((wp_5_0).trans ((wp_62 (by decide) (mm_o40 hy) (mm_r40_11 hy)).trans ((wp_1).trans ((wp_3_1).trans ((wp_12).trans ((wp_3_3).trans ((wp_10).trans ((wp_70 (mm_q50 hy)).trans (mm_ae ((wp_74 (mm_q50 hy)).trans (mm_ae ((wp_5_0).trans ((wp_62 (by decide) (mm_o40 hy) (mm_r40_12 hy)).trans ((wp_1).trans ((wp_3_2).trans ((wp_12).trans ((wp_3_3).trans ((wp_10).trans ((wp_5_0).trans ((wp_62 (by decide) (mm_o40 hy) (mm_r40_12 hy)).trans ((wp_1).trans ((wp_3_1).trans ((wp_12).trans ((wp_3_3).trans ((wp_10).trans ((wp_72 (mm_q51 hy)).trans (mm_ae ((wp_76 (mm_q51 hy)).trans (mm_ae ((wp_9 (l2 := [zR (40, 0, 0), zI x1, zI x2, zI (mm_w (x3 + 1))]) rfl rfl).trans ((wp_56).trans (rfl))))))))))))))))))))))))))))))))))))))) (mm_kb bq_178_2 ((wp_1).trans ((wp_6 (l2 := [zR (40, 0, 0), zI x1, zI x2, zI 0]) rfl).trans ((wp_0).trans (rfl)))))))))))))
theorem r_178_3 (x1 : Int) (x2 : Int) (x3 : Int) {hi : mm_Id → Int → Int} {dh : Int → Int} {nx ns : Int} {Q : mm_V → mm_H → Prop} (hy : 10581 ≤ nx) :
    mm_Wp 178 (mm_blk 178 3) [zR (40, 0, 0), zI x1, zI x2, zI x3] [] (mm_z hi dh nx ns) Q =
    (if x3 < 8 then ((0 ≤ (mm_w ((mm_w (8 * x1)) + x3)) ∧ (mm_w ((mm_w (8 * x1)) + x3)) < 8352) ∧ ((0 ≤ (mm_w ((mm_w (8 * x2)) + x3)) ∧ (mm_w ((mm_w (8 * x2)) + x3)) < 8352) ∧ mm_Wp 178 (mm_blk 178 3) [zR (40, 0, 0), zI x1, zI x2, zI (mm_w (x3 + 1))] [] (mm_z (mm_up hi (52, 0, 0) (mm_w ((mm_w (8 * x2)) + x3)) (hi (52, 0, 0) (mm_w ((mm_w (8 * x1)) + x3)))) dh nx ns) Q)) else mm_Wp 178 (mm_blk 178 5) [zR (40, 0, 0), zI x1, zI x2, zI 0] [] (mm_z hi dh nx ns) Q) :=
  mm_kb bq_178_3 ((wp_3_3).trans ((wp_1).trans ((wp_49).trans (mm_ic ((wp_5_0).trans ((wp_62 (by decide) (mm_o40 hy) (mm_r40_13 hy)).trans ((wp_1).trans ((wp_3_2).trans ((wp_12).trans ((wp_3_3).trans ((wp_10).trans ((wp_5_0).trans ((wp_62 (by decide) (mm_o40 hy) (mm_r40_13 hy)).trans ((wp_1).trans ((wp_3_1).trans ((wp_12).trans ((wp_3_3).trans ((wp_10).trans ((wp_70 (mm_q52 hy)).trans (mm_ae ((wp_74 (mm_q52 hy)).trans (mm_ae ((wp_9 (l2 := [zR (40, 0, 0), zI x1, zI x2, zI (mm_w (x3 + 1))]) rfl rfl).trans ((wp_56).trans (rfl))))))))))))))))))))) (mm_kb bq_178_4 ((wp_1).trans ((wp_6 (l2 := [zR (40, 0, 0), zI x1, zI x2, zI 0]) rfl).trans ((wp_0).trans (rfl)))))))))
theorem r_178_5 (x1 : Int) (x2 : Int) (x3 : Int) {hi : mm_Id → Int → Int} {dh : Int → Int} {nx ns : Int} {Q : mm_V → mm_H → Prop} (hy : 10581 ≤ nx) :
    mm_Wp 178 (mm_blk 178 5) [zR (40, 0, 0), zI x1, zI x2, zI x3] [] (mm_z hi dh nx ns) Q =
    (if x3 < 36 then ((0 ≤ (mm_w ((mm_w (36 * x1)) + x3)) ∧ (mm_w ((mm_w (36 * x1)) + x3)) < 37584) ∧ ((0 ≤ (mm_w ((mm_w (36 * x2)) + x3)) ∧ (mm_w ((mm_w (36 * x2)) + x3)) < 37584) ∧ mm_Wp 178 (mm_blk 178 5) [zR (40, 0, 0), zI x1, zI x2, zI (mm_w (x3 + 1))] [] (mm_z (mm_up hi (43, 0, 0) (mm_w ((mm_w (36 * x2)) + x3)) (hi (43, 0, 0) (mm_w ((mm_w (36 * x1)) + x3)))) dh nx ns) Q)) else mm_Wp 178 (mm_blk 178 7) [zR (40, 0, 0), zI x1, zI x2, zI 0] [] (mm_z hi dh nx ns) Q) :=
  mm_kb bq_178_5 ((wp_3_3).trans ((wp_1).trans ((wp_49).trans (mm_ic ((wp_5_0).trans ((wp_62 (by decide) (mm_o40 hy) (mm_r40_4 hy)).trans ((wp_1).trans ((wp_3_2).trans ((wp_12).trans ((wp_3_3).trans ((wp_10).trans ((wp_5_0).trans ((wp_62 (by decide) (mm_o40 hy) (mm_r40_4 hy)).trans ((wp_1).trans ((wp_3_1).trans ((wp_12).trans ((wp_3_3).trans ((wp_10).trans ((wp_70 (mm_q43 hy)).trans (mm_ae ((wp_74 (mm_q43 hy)).trans (mm_ae ((wp_9 (l2 := [zR (40, 0, 0), zI x1, zI x2, zI (mm_w (x3 + 1))]) rfl rfl).trans ((wp_56).trans (rfl))))))))))))))))))))) (mm_kb bq_178_6 ((wp_1).trans ((wp_6 (l2 := [zR (40, 0, 0), zI x1, zI x2, zI 0]) rfl).trans ((wp_0).trans (rfl)))))))))
theorem r_178_7 (x1 : Int) (x2 : Int) (x3 : Int) {hi : mm_Id → Int → Int} {dh : Int → Int} {nx ns : Int} {Q : mm_V → mm_H → Prop} (hy : 10581 ≤ nx) :
    mm_Wp 178 (mm_blk 178 7) [zR (40, 0, 0), zI x1, zI x2, zI x3] [] (mm_z hi dh nx ns) Q =
    ((0 ≤ x1 ∧ x1 < 1044) ∧ (if x3 < (hi (44, 0, 0) x1) then ((0 ≤ (mm_w ((mm_w (24 * x1)) + x3)) ∧ (mm_w ((mm_w (24 * x1)) + x3)) < 25056) ∧ ((0 ≤ (mm_w ((mm_w (24 * x2)) + x3)) ∧ (mm_w ((mm_w (24 * x2)) + x3)) < 25056) ∧ ((0 ≤ (mm_w ((mm_w (24 * x1)) + x3)) ∧ (mm_w ((mm_w (24 * x1)) + x3)) < 25056) ∧ ((0 ≤ (mm_w ((mm_w (24 * x2)) + x3)) ∧ (mm_w ((mm_w (24 * x2)) + x3)) < 25056) ∧ mm_Wp 178 (mm_blk 178 7) [zR (40, 0, 0), zI x1, zI x2, zI (mm_w (x3 + 1))] [] (mm_z (mm_up (mm_up hi (45, 0, 0) (mm_w ((mm_w (24 * x2)) + x3)) (hi (45, 0, 0) (mm_w ((mm_w (24 * x1)) + x3)))) (46, 0, 0) (mm_w ((mm_w (24 * x2)) + x3)) ((mm_up hi (45, 0, 0) (mm_w ((mm_w (24 * x2)) + x3)) (hi (45, 0, 0) (mm_w ((mm_w (24 * x1)) + x3)))) (46, 0, 0) (mm_w ((mm_w (24 * x1)) + x3)))) dh nx ns) Q)))) else Q zU (mm_z hi dh nx ns))) :=
  mm_kb bq_178_7 ((wp_3_3).trans ((wp_5_0).trans ((wp_62 (by decide) (mm_o40 hy) (mm_r40_5 hy)).trans ((wp_3_1).trans ((wp_70 (mm_q44 hy)).trans (mm_ae ((wp_49).trans (mm_ic ((wp_5_0).trans ((wp_62 (by decide) (mm_o40 hy) (mm_r40_6 hy)).trans ((wp_1).trans ((wp_3_2).trans ((wp_12).trans ((wp_3_3).trans ((wp_10).trans ((wp_5_0).trans ((wp_62 (by decide) (mm_o40 hy) (mm_r40_6 hy)).trans ((wp_1).trans ((wp_3_1).trans ((wp_12).trans ((wp_3_3).trans ((wp_10).trans ((wp_70 (mm_q45 hy)).trans (mm_ae ((wp_74 (mm_q45 hy)).trans (mm_ae ((wp_5_0).trans ((wp_62 (by decide) (mm_o40 hy) (mm_r40_7 hy)).trans ((wp_1).trans ((wp_3_2).trans ((wp_12).trans ((wp_3_3).trans ((wp_10).trans ((wp_5_0).trans ((wp_62 (by decide) (mm_o40 hy) (mm_r40_7 hy)).trans ((wp_1).trans ((wp_3_1).trans ((wp_12).trans ((wp_3_3).trans ((wp_10).trans ((wp_70 (mm_q46 hy)).trans (mm_ae ((wp_74 (mm_q46 hy)).trans (mm_ae ((wp_9 (l2 := [zR (40, 0, 0), zI x1, zI x2, zI (mm_w (x3 + 1))]) rfl rfl).trans ((wp_56).trans (rfl))))))))))))))))))))))))))))))))))))))) (mm_kb bq_178_8 (wp_93))))))))))
/-- PoolHouseModel.copyTree(II)V -/
theorem bq_179_0 : mm_blk 179 0 = bk_179_0 := by decide +kernel
theorem bq_179_1 : mm_blk 179 1 = bk_179_1 := by decide +kernel
theorem bq_179_2 : mm_blk 179 2 = bk_179_2 := by decide +kernel
theorem r_179_e (x1 : Int) (x2 : Int) {hi : mm_Id → Int → Int} {dh : Int → Int} {nx ns : Int} {Q : mm_V → mm_H → Prop} (hy : 10581 ≤ nx) :
    mm_Cl 179 [zR (40, 0, 0), zI x1, zI x2] (mm_z hi dh nx ns) Q =
    mm_Wp 179 (mm_blk 179 1) [zR (40, 0, 0), zI x1, zI x2, zI 1] [] (mm_z hi dh nx ns) Q :=
  mm_ce (l2 := [zR (40, 0, 0), zI x1, zI x2, zU]) rfl (mm_kb bq_179_0 ((wp_1).trans ((wp_6 (l2 := [zR (40, 0, 0), zI x1, zI x2, zI 1]) rfl).trans ((wp_0).trans (rfl)))))
theorem r_179_1 (x1 : Int) (x2 : Int) (x3 : Int) {hi : mm_Id → Int → Int} {dh : Int → Int} {nx ns : Int} {Q : mm_V → mm_H → Prop} (hy : 10581 ≤ nx) :
    mm_Wp 179 (mm_blk 179 1) [zR (40, 0, 0), zI x1, zI x2, zI x3] [] (mm_z hi dh nx ns) Q =
    (if 36 < x3 then Q zU (mm_z hi dh nx ns) else mm_Cl 175 [zI x1, zI x3] (mm_z hi dh nx ns) (fun r h3 => mm_Wp 179 (bk_179_1.drop 7) [zR (40, 0, 0), zI x1, zI x2, zI x3] (mm_push r [zR (40, 0, 0)]) h3 Q)) :=
  mm_kb bq_179_1 ((wp_3_3).trans ((wp_1).trans ((wp_50).trans (mm_ic (mm_kb bq_179_2 (wp_93)) ((wp_5_0).trans ((wp_3_1).trans ((wp_3_3).trans ((wp_s2 mm_n_175 (mm_leq mm_m_175 (mm_lb rfl)) (mm_lb rfl)).trans rfl))))))))
theorem r_179_1_7 (x1 : Int) (x2 : Int) (x3 : Int) (y0 : Int) {hi : mm_Id → Int → Int} {dh : Int → Int} {nx ns : Int} {Q : mm_V → mm_H → Prop} (hy : 10581 ≤ nx) :
    mm_Wp 179 (bk_179_1.drop 7) [zR (40, 0, 0), zI x1, zI x2, zI x3] [zI y0, zR (40, 0, 0)] (mm_z hi dh nx ns) Q =
    mm_Cl 175 [zI x2, zI x3] (mm_z hi dh nx ns) (fun r h3 => mm_Wp 179 (bk_179_1.drop 10) [zR (40, 0, 0), zI x1, zI x2, zI x3] (mm_push r [zI y0, zR (40, 0, 0)]) h3 Q) :=
  (wp_3_2).trans ((wp_3_3).trans ((wp_s2 mm_n_175 (mm_leq mm_m_175 (mm_lb rfl)) (mm_lb rfl)).trans rfl))
theorem r_179_1_10 (x1 : Int) (x2 : Int) (x3 : Int) (y0 : Int) (y1 : Int) {hi : mm_Id → Int → Int} {dh : Int → Int} {nx ns : Int} {Q : mm_V → mm_H → Prop} (hy : 10581 ≤ nx) :
    mm_Wp 179 (bk_179_1.drop 10) [zR (40, 0, 0), zI x1, zI x2, zI x3] [zI y0, zI y1, zR (40, 0, 0)] (mm_z hi dh nx ns) Q =
    mm_Cl 178 [zR (40, 0, 0), zI y1, zI y0] (mm_z hi dh nx ns) (fun r h3 => mm_Wp 179 (bk_179_1.drop 11) [zR (40, 0, 0), zI x1, zI x2, zI x3] (mm_push r []) h3 Q) :=
  (wp_v3 mm_n_178 (mm_leq mm_m_178 (mm_lb rfl)) (mm_lb rfl) (mm_o40 hy)).trans rfl
theorem r_179_1_11 (x1 : Int) (x2 : Int) (x3 : Int) {hi : mm_Id → Int → Int} {dh : Int → Int} {nx ns : Int} {Q : mm_V → mm_H → Prop} (hy : 10581 ≤ nx) :
    mm_Wp 179 (bk_179_1.drop 11) [zR (40, 0, 0), zI x1, zI x2, zI x3] [] (mm_z hi dh nx ns) Q =
    mm_Wp 179 (mm_blk 179 1) [zR (40, 0, 0), zI x1, zI x2, zI (mm_w (x3 + 1))] [] (mm_z hi dh nx ns) Q :=
  (wp_9 (l2 := [zR (40, 0, 0), zI x1, zI x2, zI (mm_w (x3 + 1))]) rfl rfl).trans ((wp_56).trans (rfl))
/-- PoolHouseModel.clearNode(I)V -/
theorem bq_180_0 : mm_blk 180 0 = bk_180_0 := by decide +kernel
theorem bq_180_1 : mm_blk 180 1 = bk_180_1 := by decide +kernel
theorem bq_180_2 : mm_blk 180 2 = bk_180_2 := by decide +kernel
theorem r_180_e (x1 : Int) {hi : mm_Id → Int → Int} {dh : Int → Int} {nx ns : Int} {Q : mm_V → mm_H → Prop} (hy : 10581 ≤ nx) :
    mm_Cl 180 [zR (40, 0, 0), zI x1] (mm_z hi dh nx ns) Q =
    ((0 ≤ x1 ∧ x1 < 1044) ∧ ((0 ≤ x1 ∧ x1 < 1044) ∧ ((0 ≤ x1 ∧ x1 < 1044) ∧ ((0 ≤ x1 ∧ x1 < 1044) ∧ mm_Wp 180 (mm_blk 180 1) [zR (40, 0, 0), zI x1, zI 0] [] (mm_z (mm_up (mm_up (mm_up (mm_up hi (41, 0, 0) x1 0) (42, 0, 0) x1 0) (44, 0, 0) x1 0) (49, 0, 0) x1 0) dh nx ns) Q)))) :=
  mm_ce (l2 := [zR (40, 0, 0), zI x1, zU]) rfl (mm_kb bq_180_0 ((wp_5_0).trans ((wp_62 (by decide) (mm_o40 hy) (mm_r40_2 hy)).trans ((wp_3_1).trans ((wp_1).trans ((wp_74 (mm_q41 hy)).trans (mm_ae ((wp_5_0).trans ((wp_62 (by decide) (mm_o40 hy) (mm_r40_3 hy)).trans ((wp_3_1).trans ((wp_1).trans ((wp_74 (mm_q42 hy)).trans (mm_ae ((wp_5_0).trans ((wp_62 (by decide) (mm_o40 hy) (mm_r40_5 hy)).trans ((wp_3_1).trans ((wp_1).trans ((wp_74 (mm_q44 hy)).trans (mm_ae ((wp_5_0).trans ((wp_62 (by decide) (mm_o40 hy) (mm_r40_10 hy)).trans ((wp_3_1).trans ((wp_1).trans ((wp_74 (mm_q49 hy)).trans (mm_ae ((wp_1).trans ((wp_6 (l2 := [zR (40, 0, 0), zI x1, zI 0]) rfl).trans ((wp_0).trans (rfl)))))))))))))))))))))))))))))
theorem r_180_1 (x1 : Int) (x2 : Int) {hi : mm_Id → Int → Int} {dh : Int → Int} {nx ns : Int} {Q : mm_V → mm_H → Prop} (hy : 10581 ≤ nx) :
    mm_Wp 180 (mm_blk 180 1) [zR (40, 0, 0), zI x1, zI x2] [] (mm_z hi dh nx ns) Q =
    (if x2 < 36 then ((0 ≤ (mm_w ((mm_w (36 * x1)) + x2)) ∧ (mm_w ((mm_w (36 * x1)) + x2)) < 37584) ∧ mm_Wp 180 (mm_blk 180 1) [zR (40, 0, 0), zI x1, zI (mm_w (x2 + 1))] [] (mm_z (mm_up hi (43, 0, 0) (mm_w ((mm_w (36 * x1)) + x2)) 0) dh nx ns) Q) else Q zU (mm_z hi dh nx ns)) :=
  mm_kb bq_180_1 ((wp_3_2).trans ((wp_1).trans ((wp_49).trans (mm_ic ((wp_5_0).trans ((wp_62 (by decide) (mm_o40 hy) (mm_r40_4 hy)).trans ((wp_1).trans ((wp_3_1).trans ((wp_12).trans ((wp_3_2).trans ((wp_10).trans ((wp_1).trans ((wp_74 (mm_q43 hy)).trans (mm_ae ((wp_9 (l2 := [zR (40, 0, 0), zI x1, zI (mm_w (x2 + 1))]) rfl rfl).trans ((wp_56).trans (rfl))))))))))))) (mm_kb bq_180_2 (wp_93))))))
/-- PoolHouseModel.placeOf(I)I -/
theorem bq_181_0 : mm_blk 181 0 = bk_181_0 := by decide +kernel
theorem bq_181_1 : mm_blk 181 1 = bk_181_1 := by decide +kernel
theorem bq_181_2 : mm_blk 181 2 = bk_181_2 := by decide +kernel
theorem bq_181_3 : mm_blk 181 3 = bk_181_3 := by decide +kernel
theorem bq_181_4 : mm_blk 181 4 = bk_181_4 := by decide +kernel
theorem bq_181_5 : mm_blk 181 5 = bk_181_5 := by decide +kernel
theorem r_181_e (x1 : Int) {hi : mm_Id → Int → Int} {dh : Int → Int} {nx ns : Int} {Q : mm_V → mm_H → Prop} (hy : 10581 ≤ nx) :
    mm_Cl 181 [zR (40, 0, 0), zI x1] (mm_z hi dh nx ns) Q =
    mm_Wp 181 (mm_blk 181 1) [zR (40, 0, 0), zI x1, zI 0] [] (mm_z hi dh nx ns) Q :=
  mm_ce (l2 := [zR (40, 0, 0), zI x1, zU]) rfl (mm_kb bq_181_0 ((wp_1).trans ((wp_6 (l2 := [zR (40, 0, 0), zI x1, zI 0]) rfl).trans ((wp_0).trans (rfl)))))
theorem r_181_1 (x1 : Int) (x2 : Int) {hi : mm_Id → Int → Int} {dh : Int → Int} {nx ns : Int} {Q : mm_V → mm_H → Prop} (hy : 10581 ≤ nx) :
    mm_Wp 181 (mm_blk 181 1) [zR (40, 0, 0), zI x1, zI x2] [] (mm_z hi dh nx ns) Q =
    (if x2 < 13 then ((0 ≤ x2 ∧ x2 < 26) ∧ (if 0 < (hi (57, 0, 0) x2) then ((0 ≤ x2 ∧ x2 < 26) ∧ (if x2 < 5 then mm_Wp 181 (mm_blk 181 3) [zR (40, 0, 0), zI x1, zI x2] [zI x1, zI (hi (57, 0, 0) x2)] (mm_z hi dh nx ns) Q else mm_Wp 181 (mm_blk 181 3) [zR (40, 0, 0), zI x1, zI x2] [zI (mm_w (-x1)), zI (hi (57, 0, 0) x2)] (mm_z hi dh nx ns) Q)) else mm_Wp 181 (mm_blk 181 4) [zR (40, 0, 0), zI x1, zI x2] [] (mm_z hi dh nx ns) Q)) else Q (zI (-1)) (mm_z hi dh nx ns)) :=
  mm_kb bq_181_1 ((wp_3_2).trans ((wp_1).trans ((wp_49).trans (mm_ic ((wp_5_0).trans ((wp_62 (by decide) (mm_o40 hy) (mm_r40_19 hy)).trans ((wp_3_2).trans ((wp_70 (mm_q57 hy)).trans (mm_ae ((wp_45).trans (mm_ic ((wp_5_0).trans ((wp_62 (by decide) (mm_o40 hy) (mm_r40_19 hy)).trans ((wp_3_2).trans ((wp_70 (mm_q57 hy)).trans (mm_ae ((wp_3_2).trans ((wp_1).trans ((wp_49).trans (mm_ic ((wp_3_1).trans ((wp_56).trans (rfl))) (mm_kb bq_181_2 ((wp_3_1).trans ((wp_15).trans ((wp_0).trans (rfl)))))))))))))) (rfl)))))))) (mm_kb bq_181_5 ((wp_1).trans (wp_90)))))))
theorem r_181_4 (x1 : Int) (x2 : Int) {hi : mm_Id → Int → Int} {dh : Int → Int} {nx ns : Int} {Q : mm_V → mm_H → Prop} (hy : 10581 ≤ nx) :
    mm_Wp 181 (mm_blk 181 4) [zR (40, 0, 0), zI x1, zI x2] [] (mm_z hi dh nx ns) Q =
    mm_Wp 181 (mm_blk 181 1) [zR (40, 0, 0), zI x1, zI (mm_w (x2 + 1))] [] (mm_z hi dh nx ns) Q :=
  mm_kb bq_181_4 ((wp_9 (l2 := [zR (40, 0, 0), zI x1, zI (mm_w (x2 + 1))]) rfl rfl).trans ((wp_56).trans (rfl)))
theorem r_181_3 (x1 : Int) (x2 : Int) (y0 : Int) (y1 : Int) {hi : mm_Id → Int → Int} {dh : Int → Int} {nx ns : Int} {Q : mm_V → mm_H → Prop} (hy : 10581 ≤ nx) :
    mm_Wp 181 (mm_blk 181 3) [zR (40, 0, 0), zI x1, zI x2] [zI y0, zI y1] (mm_z hi dh nx ns) Q =
    (if y1 = y0 then Q (zI x2) (mm_z hi dh nx ns) else mm_Wp 181 (mm_blk 181 4) [zR (40, 0, 0), zI x1, zI x2] [] (mm_z hi dh nx ns) Q) :=
  mm_kb bq_181_3 ((wp_47).trans (mm_ic ((wp_3_2).trans (wp_90)) (rfl)))
/-- PoolHouseModel.datasetPlace(I)I -/
theorem bq_182_0 : mm_blk 182 0 = bk_182_0 := by decide +kernel
theorem bq_182_1 : mm_blk 182 1 = bk_182_1 := by decide +kernel
theorem bq_182_2 : mm_blk 182 2 = bk_182_2 := by decide +kernel
theorem r_182_e (x1 : Int) {hi : mm_Id → Int → Int} {dh : Int → Int} {nx ns : Int} {Q : mm_V → mm_H → Prop} (hy : 10581 ≤ nx) :
    mm_Cl 182 [zR (40, 0, 0), zI x1] (mm_z hi dh nx ns) Q =
    (if 0 < x1 then mm_Cl 181 [zR (40, 0, 0), zI x1] (mm_z hi dh nx ns) (fun r h3 => mm_Wp 182 (bk_182_0.drop 5) [zR (40, 0, 0), zI x1] (mm_push r []) h3 Q) else mm_Wp 182 (mm_blk 182 2) [zR (40, 0, 0), zI x1] [zI (-1)] (mm_z hi dh nx ns) Q) :=
  mm_ce (l2 := [zR (40, 0, 0), zI x1]) rfl (mm_kb bq_182_0 ((wp_3_1).trans ((wp_45).trans (mm_ic ((wp_5_0).trans ((wp_3_1).trans ((wp_v2 mm_n_181 (mm_leq mm_m_181 (mm_lb rfl)) (mm_lb rfl) (mm_o40 hy)).trans rfl))) (mm_kb bq_182_1 ((wp_1).trans ((wp_0).trans (rfl))))))))
theorem r_182_2 (vx0 : mm_V) (vx1 : mm_V) (y0 : Int) {hi : mm_Id → Int → Int} {dh : Int → Int} {nx ns : Int} {Q : mm_V → mm_H → Prop} (hy : 10581 ≤ nx) :
    mm_Wp 182 (mm_blk 182 2) [vx0, vx1] [zI y0] (mm_z hi dh nx ns) Q =
    Q (zI y0) (mm_z hi dh nx ns) :=
  mm_kb bq_182_2 (wp_90)
theorem r_182_0_5 (vx0 : mm_V) (vx1 : mm_V) (y0 : Int) {hi : mm_Id → Int → Int} {dh : Int → Int} {nx ns : Int} {Q : mm_V → mm_H → Prop} (hy : 10581 ≤ nx) :
    mm_Wp 182 (bk_182_0.drop 5) [vx0, vx1] [zI y0] (mm_z hi dh nx ns) Q =
    mm_Wp 182 (mm_blk 182 2) [vx0, vx1] [zI y0] (mm_z hi dh nx ns) Q :=
  (wp_56).trans (rfl)
/-- PoolHouseModel.snapshotPlace(I)I -/
theorem bq_183_0 : mm_blk 183 0 = bk_183_0 := by decide +kernel
theorem bq_183_1 : mm_blk 183 1 = bk_183_1 := by decide +kernel
theorem bq_183_2 : mm_blk 183 2 = bk_183_2 := by decide +kernel
theorem r_183_e (x1 : Int) {hi : mm_Id → Int → Int} {dh : Int → Int} {nx ns : Int} {Q : mm_V → mm_H → Prop} (hy : 10581 ≤ nx) :
    mm_Cl 183 [zR (40, 0, 0), zI x1] (mm_z hi dh nx ns) Q =
    (if 0 < x1 then mm_Cl 181 [zR (40, 0, 0), zI (mm_w (-x1))] (mm_z hi dh nx ns) (fun r h3 => mm_Wp 183 (bk_183_0.drop 6) [zR (40, 0, 0), zI x1] (mm_push r []) h3 Q) else mm_Wp 183 (mm_blk 183 2) [zR (40, 0, 0), zI x1] [zI (-1)] (mm_z hi dh nx ns) Q) :=
  mm_ce (l2 := [zR (40, 0, 0), zI x1]) rfl (mm_kb bq_183_0 ((wp_3_1).trans ((wp_45).trans (mm_ic ((wp_5_0).trans ((wp_3_1).trans ((wp_15).trans ((wp_v2 mm_n_181 (mm_leq mm_m_181 (mm_lb rfl)) (mm_lb rfl) (mm_o40 hy)).trans rfl)))) (mm_kb bq_183_1 ((wp_1).trans ((wp_0).trans (rfl))))))))
theorem r_183_2 (vx0 : mm_V) (vx1 : mm_V) (y0 : Int) {hi : mm_Id → Int → Int} {dh : Int → Int} {nx ns : Int} {Q : mm_V → mm_H → Prop} (hy : 10581 ≤ nx) :
    mm_Wp 183 (mm_blk 183 2) [vx0, vx1] [zI y0] (mm_z hi dh nx ns) Q =
    Q (zI y0) (mm_z hi dh nx ns) :=
  mm_kb bq_183_2 (wp_90)
theorem r_183_0_6 (vx0 : mm_V) (vx1 : mm_V) (y0 : Int) {hi : mm_Id → Int → Int} {dh : Int → Int} {nx ns : Int} {Q : mm_V → mm_H → Prop} (hy : 10581 ≤ nx) :
    mm_Wp 183 (bk_183_0.drop 6) [vx0, vx1] [zI y0] (mm_z hi dh nx ns) Q =
    mm_Wp 183 (mm_blk 183 2) [vx0, vx1] [zI y0] (mm_z hi dh nx ns) Q :=
  (wp_56).trans (rfl)
/-- PoolHouseModel.entryOf(III)I -/
theorem bq_184_0 : mm_blk 184 0 = bk_184_0 := by decide +kernel
theorem bq_184_1 : mm_blk 184 1 = bk_184_1 := by decide +kernel
theorem bq_184_2 : mm_blk 184 2 = bk_184_2 := by decide +kernel
theorem bq_184_3 : mm_blk 184 3 = bk_184_3 := by decide +kernel
theorem r_184_e (x1 : Int) (x2 : Int) (x3 : Int) {hi : mm_Id → Int → Int} {dh : Int → Int} {nx ns : Int} {Q : mm_V → mm_H → Prop} (hy : 10581 ≤ nx) :
    mm_Cl 184 [zR (40, 0, 0), zI x1, zI x2, zI x3] (mm_z hi dh nx ns) Q =
    mm_Cl 175 [zI x1, zI x2] (mm_z hi dh nx ns) (fun r h3 => mm_Wp 184 (bk_184_0.drop 3) [zR (40, 0, 0), zI x1, zI x2, zI x3, zU, zU] (mm_push r []) h3 Q) :=
  mm_ce (l2 := [zR (40, 0, 0), zI x1, zI x2, zI x3, zU, zU]) rfl (mm_kb bq_184_0 ((wp_3_1).trans ((wp_3_2).trans ((wp_s2 mm_n_175 (mm_leq mm_m_175 (mm_lb rfl)) (mm_lb rfl)).trans rfl))))
theorem r_184_0_3 (vx1 : mm_V) (vx2 : mm_V) (x3 : Int) (vx4 : mm_V) (vx5 : mm_V) (y0 : Int) {hi : mm_Id → Int → Int} {dh : Int → Int} {nx ns : Int} {Q : mm_V → mm_H → Prop} (hy : 10581 ≤ nx) :
    mm_Wp 184 (bk_184_0.drop 3) [zR (40, 0, 0), vx1, vx2, zI x3, vx4, vx5] [zI y0] (mm_z hi dh nx ns) Q =
    mm_Wp 184 (mm_blk 184 1) [zR (40, 0, 0), vx1, vx2, zI x3, zI y0, zI 0] [] (mm_z hi dh nx ns) Q :=
  (wp_6 (l2 := [zR (40, 0, 0), vx1, vx2, zI x3, zI y0, vx5]) rfl).trans ((wp_1).trans ((wp_6 (l2 := [zR (40, 0, 0), vx1, vx2, zI x3, zI y0, zI 0]) rfl).trans ((wp_0).trans (rfl))))
theorem r_184_1 (vx1 : mm_V) (vx2 : mm_V) (x3 : Int) (x4 : Int) (x5 : Int) {hi : mm_Id → Int → Int} {dh : Int → Int} {nx ns : Int} {Q : mm_V → mm_H → Prop} (hy : 10581 ≤ nx) :
    mm_Wp 184 (mm_blk 184 1) [zR (40, 0, 0), vx1, vx2, zI x3, zI x4, zI x5] [] (mm_z hi dh nx ns) Q =
    ((0 ≤ x4 ∧ x4 < 1044) ∧ (if x5 < (hi (44, 0, 0) x4) then ((0 ≤ (mm_w ((mm_w (24 * x4)) + x5)) ∧ (mm_w ((mm_w (24 * x4)) + x5)) < 25056) ∧ (if (hi (45, 0, 0) (mm_w ((mm_w (24 * x4)) + x5))) = x3 then Q (zI x5) (mm_z hi dh nx ns) else mm_Wp 184 (mm_blk 184 1) [zR (40, 0, 0), vx1, vx2, zI x3, zI x4, zI (mm_w (x5 + 1))] [] (mm_z hi dh nx ns) Q)) else Q (zI (-1)) (mm_z hi dh nx ns))) :=
  mm_kb bq_184_1 ((wp_3_5).trans ((wp_5_0).trans ((wp_62 (by decide) (mm_o40 hy) (mm_r40_5 hy)).trans ((wp_3_4).trans ((wp_70 (mm_q44 hy)).trans (mm_ae ((wp_49).trans (mm_ic ((wp_5_0).trans ((wp_62 (by decide) (mm_o40 hy) (mm_r40_6 hy)).trans ((wp_1).trans ((wp_3_4).trans ((wp_12).trans ((wp_3_5).trans ((wp_10).trans ((wp_70 (mm_q45 hy)).trans (mm_ae ((wp_3_3).trans ((wp_47).trans (mm_ic ((wp_3_5).trans (wp_90)) (mm_kb bq_184_2 ((wp_9 (l2 := [zR (40, 0, 0), vx1, vx2, zI x3, zI x4, zI (mm_w (x5 + 1))]) rfl rfl).trans ((wp_56).trans (rfl)))))))))))))))) (mm_kb bq_184_3 ((wp_1).trans (wp_90)))))))))))
/-- PoolHouseModel.meant(III)I -/
theorem bq_185_0 : mm_blk 185 0 = bk_185_0 := by decide +kernel
theorem r_185_e (x1 : Int) (x2 : Int) (x3 : Int) {hi : mm_Id → Int → Int} {dh : Int → Int} {nx ns : Int} {Q : mm_V → mm_H → Prop} (hy : 10581 ≤ nx) :
    mm_Cl 185 [zR (40, 0, 0), zI x1, zI x2, zI x3] (mm_z hi dh nx ns) Q =
    mm_Cl 175 [zI x1, zI x2] (mm_z hi dh nx ns) (fun r h3 => mm_Wp 185 (bk_185_0.drop 6) [zR (40, 0, 0), zI x1, zI x2, zI x3] (mm_push r [zI 24, zR (46, 0, 0)]) h3 Q) :=
  mm_ce (l2 := [zR (40, 0, 0), zI x1, zI x2, zI x3]) rfl (mm_kb bq_185_0 ((wp_5_0).trans ((wp_62 (by decide) (mm_o40 hy) (mm_r40_7 hy)).trans ((wp_1).trans ((wp_3_1).trans ((wp_3_2).trans ((wp_s2 mm_n_175 (mm_leq mm_m_175 (mm_lb rfl)) (mm_lb rfl)).trans rfl)))))))
theorem r_185_0_6 (vx0 : mm_V) (vx1 : mm_V) (vx2 : mm_V) (x3 : Int) (y0 : Int) (y1 : Int) {hi : mm_Id → Int → Int} {dh : Int → Int} {nx ns : Int} {Q : mm_V → mm_H → Prop} (hy : 10581 ≤ nx) :
    mm_Wp 185 (bk_185_0.drop 6) [vx0, vx1, vx2, zI x3] [zI y0, zI y1, zR (46, 0, 0)] (mm_z hi dh nx ns) Q =
    ((0 ≤ (mm_w ((mm_w (y1 * y0)) + x3)) ∧ (mm_w ((mm_w (y1 * y0)) + x3)) < 25056) ∧ Q (zI (hi (46, 0, 0) (mm_w ((mm_w (y1 * y0)) + x3)))) (mm_z hi dh nx ns)) :=
  (wp_12).trans ((wp_3_3).trans ((wp_10).trans ((wp_70 (mm_q46 hy)).trans (mm_ae (wp_90)))))
/-- PoolHouseModel.putEntry(IIII)V -/
theorem bq_186_0 : mm_blk 186 0 = bk_186_0 := by decide +kernel
theorem bq_186_1 : mm_blk 186 1 = bk_186_1 := by decide +kernel
theorem bq_186_2 : mm_blk 186 2 = bk_186_2 := by decide +kernel
theorem r_186_e (x1 : Int) (x2 : Int) (x3 : Int) (x4 : Int) {hi : mm_Id → Int → Int} {dh : Int → Int} {nx ns : Int} {Q : mm_V → mm_H → Prop} (hy : 10581 ≤ nx) :
    mm_Cl 186 [zR (40, 0, 0), zI x1, zI x2, zI x3, zI x4] (mm_z hi dh nx ns) Q =
    mm_Cl 175 [zI x1, zI x2] (mm_z hi dh nx ns) (fun r h3 => mm_Wp 186 (bk_186_0.drop 3) [zR (40, 0, 0), zI x1, zI x2, zI x3, zI x4, zU, zU] (mm_push r []) h3 Q) :=
  mm_ce (l2 := [zR (40, 0, 0), zI x1, zI x2, zI x3, zI x4, zU, zU]) rfl (mm_kb bq_186_0 ((wp_3_1).trans ((wp_3_2).trans ((wp_s2 mm_n_175 (mm_leq mm_m_175 (mm_lb rfl)) (mm_lb rfl)).trans rfl))))
theorem r_186_0_3 (vx1 : mm_V) (vx2 : mm_V) (x3 : Int) (x4 : Int) (vx5 : mm_V) (vx6 : mm_V) (y0 : Int) {hi : mm_Id → Int → Int} {dh : Int → Int} {nx ns : Int} {Q : mm_V → mm_H → Prop} (hy : 10581 ≤ nx) :
    mm_Wp 186 (bk_186_0.drop 3) [zR (40, 0, 0), vx1, vx2, zI x3, zI x4, vx5, vx6] [zI y0] (mm_z hi dh nx ns) Q =
    ((0 ≤ y0 ∧ y0 < 1044) ∧ mm_Wp 186 (mm_blk 186 1) [zR (40, 0, 0), vx1, vx2, zI x3, zI x4, zI y0, zI (hi (44, 0, 0) y0)] [] (mm_z hi dh nx ns) Q) :=
  (wp_6 (l2 := [zR (40, 0, 0), vx1, vx2, zI x3, zI x4, zI y0, vx6]) rfl).trans ((wp_5_0).trans ((wp_62 (by decide) (mm_o40 hy) (mm_r40_5 hy)).trans ((wp_3_5).trans ((wp_70 (mm_q44 hy)).trans (mm_ae ((wp_6 (l2 := [zR (40, 0, 0), vx1, vx2, zI x3, zI x4, zI y0, zI (hi (44, 0, 0) y0)]) rfl).trans ((wp_0).trans (rfl))))))))
theorem r_186_1 (vx1 : mm_V) (vx2 : mm_V) (x3 : Int) (x4 : Int) (x5 : Int) (x6 : Int) {hi : mm_Id → Int → Int} {dh : Int → Int} {nx ns : Int} {Q : mm_V → mm_H → Prop} (hy : 10581 ≤ nx) :
    mm_Wp 186 (mm_blk 186 1) [zR (40, 0, 0), vx1, vx2, zI x3, zI x4, zI x5, zI x6] [] (mm_z hi dh nx ns) Q =
    (if 0 < x6 then ((0 ≤ (mm_w ((mm_w ((mm_w (24 * x5)) + x6)) - 1)) ∧ (mm_w ((mm_w ((mm_w (24 * x5)) + x6)) - 1)) < 25056) ∧ (if x3 < (hi (45, 0, 0) (mm_w ((mm_w ((mm_w (24 * x5)) + x6)) - 1))) then ((0 ≤ (mm_w ((mm_w ((mm_w (24 * x5)) + x6)) - 1)) ∧ (mm_w ((mm_w ((mm_w (24 * x5)) + x6)) - 1)) < 25056) ∧ ((0 ≤ (mm_w ((mm_w (24 * x5)) + x6)) ∧ (mm_w ((mm_w (24 * x5)) + x6)) < 25056) ∧ ((0 ≤ (mm_w ((mm_w ((mm_w (24 * x5)) + x6)) - 1)) ∧ (mm_w ((mm_w ((mm_w (24 * x5)) + x6)) - 1)) < 25056) ∧ ((0 ≤ (mm_w ((mm_w (24 * x5)) + x6)) ∧ (mm_w ((mm_w (24 * x5)) + x6)) < 25056) ∧ mm_Wp 186 (mm_blk 186 1) [zR (40, 0, 0), vx1, vx2, zI x3, zI x4, zI x5, zI (mm_w (x6 + (-1)))] [] (mm_z (mm_up (mm_up hi (45, 0, 0) (mm_w ((mm_w (24 * x5)) + x6)) (hi (45, 0, 0) (mm_w ((mm_w ((mm_w (24 * x5)) + x6)) - 1)))) (46, 0, 0) (mm_w ((mm_w (24 * x5)) + x6)) ((mm_up hi (45, 0, 0) (mm_w ((mm_w (24 * x5)) + x6)) (hi (45, 0, 0) (mm_w ((mm_w ((mm_w (24 * x5)) + x6)) - 1)))) (46, 0, 0) (mm_w ((mm_w ((mm_w (24 * x5)) + x6)) - 1)))) dh nx ns) Q)))) else mm_Wp 186 (mm_blk 186 2) [zR (40, 0, 0), vx1, vx2, zI x3, zI x4, zI x5, zI x6] [] (mm_z hi dh nx ns) Q)) else mm_Wp 186 (mm_blk 186 2) [zR (40, 0, 0), vx1, vx2, zI x3, zI x4, zI x5, zI x6] [] (mm_z hi dh nx ns) Q) :=
  mm_kb bq_186_1 ((wp_3_6).trans ((wp_45).trans (mm_ic ((wp_5_0).trans ((wp_62 (by decide) (mm_o40 hy) (mm_r40_6 hy)).trans ((wp_1).trans ((wp_3_5).trans ((wp_12).trans ((wp_3_6).trans ((wp_10).trans ((wp_1).trans ((wp_11).trans ((wp_70 (mm_q45 hy)).trans (mm_ae ((wp_3_3).trans ((wp_51).trans (mm_ic ((wp_5_0).trans ((wp_62 (by decide) (mm_o40 hy) (mm_r40_6 hy)).trans ((wp_1).trans ((wp_3_5).trans ((wp_12).trans ((wp_3_6).trans ((wp_10).trans ((wp_5_0).trans ((wp_62 (by decide) (mm_o40 hy) (mm_r40_6 hy)).trans ((wp_1).trans ((wp_3_5).trans ((wp_12).trans ((wp_3_6).trans ((wp_10).trans ((wp_1).trans ((wp_11).trans ((wp_70 (mm_q45 hy)).trans (mm_ae ((wp_74 (mm_q45 hy)).trans (mm_ae ((wp_5_0).trans ((wp_62 (by decide) (mm_o40 hy) (mm_r40_7 hy)).trans ((wp_1).trans ((wp_3_5).trans ((wp_12).trans ((wp_3_6).trans ((wp_10).trans ((wp_5_0).trans ((wp_62 (by decide) (mm_o40 hy) (mm_r40_7 hy)).trans ((wp_1).trans ((wp_3_5).trans ((wp_12).trans ((wp_3_6).trans ((wp_10).trans ((wp_1).trans ((wp_11).trans ((wp_70 (mm_q46 hy)).trans (mm_ae ((wp_74 (mm_q46 hy)).trans (mm_ae ((wp_9 (l2 := [zR (40, 0, 0), vx1, vx2, zI x3, zI x4, zI x5, zI (mm_w (x6 + (-1)))]) rfl rfl).trans ((wp_56).trans (rfl))))))))))))))))))))))))))))))))))))))))))) (rfl))))))))))))))) (rfl))))
theorem r_186_2 (vx1 : mm_V) (vx2 : mm_V) (x3 : Int) (x4 : Int) (x5 : Int) (x6 : Int) {hi : mm_Id → Int → Int} {dh : Int → Int} {nx ns : Int} {Q : mm_V → mm_H → Prop} (hy : 10581 ≤ nx) :
    mm_Wp 186 (mm_blk 186 2) [zR (40, 0, 0), vx1, vx2, zI x3, zI x4, zI x5, zI x6] [] (mm_z hi dh nx ns) Q =
    ((0 ≤ (mm_w ((mm_w (24 * x5)) + x6)) ∧ (mm_w ((mm_w (24 * x5)) + x6)) < 25056) ∧ ((0 ≤ (mm_w ((mm_w (24 * x5)) + x6)) ∧ (mm_w ((mm_w (24 * x5)) + x6)) < 25056) ∧ ((0 ≤ x5 ∧ x5 < 1044) ∧ ((0 ≤ x5 ∧ x5 < 1044) ∧ Q zU (mm_z (mm_up (mm_up (mm_up hi (45, 0, 0) (mm_w ((mm_w (24 * x5)) + x6)) x3) (46, 0, 0) (mm_w ((mm_w (24 * x5)) + x6)) x4) (44, 0, 0) x5 (mm_w (((mm_up (mm_up hi (45, 0, 0) (mm_w ((mm_w (24 * x5)) + x6)) x3) (46, 0, 0) (mm_w ((mm_w (24 * x5)) + x6)) x4) (44, 0, 0) x5) + 1))) dh nx ns))))) :=
  mm_kb bq_186_2 ((wp_5_0).trans ((wp_62 (by decide) (mm_o40 hy) (mm_r40_6 hy)).trans ((wp_1).trans ((wp_3_5).trans ((wp_12).trans ((wp_3_6).trans ((wp_10).trans ((wp_3_3).trans ((wp_74 (mm_q45 hy)).trans (mm_ae ((wp_5_0).trans ((wp_62 (by decide) (mm_o40 hy) (mm_r40_7 hy)).trans ((wp_1).trans ((wp_3_5).trans ((wp_12).trans ((wp_3_6).trans ((wp_10).trans ((wp_3_4).trans ((wp_74 (mm_q46 hy)).trans (mm_ae ((wp_5_0).trans ((wp_62 (by decide) (mm_o40 hy) (mm_r40_5 hy)).trans ((wp_3_5).trans ((wp_37).trans ((wp_70 (mm_q44 hy)).trans (mm_ae ((wp_1).trans ((wp_10).trans ((wp_74 (mm_q44 hy)).trans (mm_ae (wp_93)))))))))))))))))))))))))))))))
/-- PoolHouseModel.takeEntry(III)V -/
theorem bq_187_0 : mm_blk 187 0 = bk_187_0 := by decide +kernel
theorem bq_187_1 : mm_blk 187 1 = bk_187_1 := by decide +kernel
theorem bq_187_2 : mm_blk 187 2 = bk_187_2 := by decide +kernel
theorem r_187_e (x1 : Int) (x2 : Int) (x3 : Int) {hi : mm_Id → Int → Int} {dh : Int → Int} {nx ns : Int} {Q : mm_V → mm_H → Prop} (hy : 10581 ≤ nx) :
    mm_Cl 187 [zR (40, 0, 0), zI x1, zI x2, zI x3] (mm_z hi dh nx ns) Q =
    mm_Cl 175 [zI x1, zI x2] (mm_z hi dh nx ns) (fun r h3 => mm_Wp 187 (bk_187_0.drop 3) [zR (40, 0, 0), zI x1, zI x2, zI x3, zU, zU] (mm_push r []) h3 Q) :=
  mm_ce (l2 := [zR (40, 0, 0), zI x1, zI x2, zI x3, zU, zU]) rfl (mm_kb bq_187_0 ((wp_3_1).trans ((wp_3_2).trans ((wp_s2 mm_n_175 (mm_leq mm_m_175 (mm_lb rfl)) (mm_lb rfl)).trans rfl))))
theorem r_187_0_3 (vx1 : mm_V) (vx2 : mm_V) (x3 : Int) (vx4 : mm_V) (vx5 : mm_V) (y0 : Int) {hi : mm_Id → Int → Int} {dh : Int → Int} {nx ns : Int} {Q : mm_V → mm_H → Prop} (hy : 10581 ≤ nx) :
    mm_Wp 187 (bk_187_0.drop 3) [zR (40, 0, 0), vx1, vx2, zI x3, vx4, vx5] [zI y0] (mm_z hi dh nx ns) Q =
    ((0 ≤ y0 ∧ y0 < 1044) ∧ ((0 ≤ y0 ∧ y0 < 1044) ∧ mm_Wp 187 (mm_blk 187 1) [zR (40, 0, 0), vx1, vx2, zI x3, zI y0, zI x3] [] (mm_z (mm_up hi (44, 0, 0) y0 (mm_w ((hi (44, 0, 0) y0) - 1))) dh nx ns) Q)) :=
  (wp_6 (l2 := [zR (40, 0, 0), vx1, vx2, zI x3, zI y0, vx5]) rfl).trans ((wp_5_0).trans ((wp_62 (by decide) (mm_o40 hy) (mm_r40_5 hy)).trans ((wp_3_4).trans ((wp_37).trans ((wp_70 (mm_q44 hy)).trans (mm_ae ((wp_1).trans ((wp_11).trans ((wp_74 (mm_q44 hy)).trans (mm_ae ((wp_3_3).trans ((wp_6 (l2 := [zR (40, 0, 0), vx1, vx2, zI x3, zI y0, zI x3]) rfl).trans ((wp_0).trans (rfl))))))))))))))
theorem r_187_1 (vx1 : mm_V) (vx2 : mm_V) (vx3 : mm_V) (x4 : Int) (x5 : Int) {hi : mm_Id → Int → Int} {dh : Int → Int} {nx ns : Int} {Q : mm_V → mm_H → Prop} (hy : 10581 ≤ nx) :
    mm_Wp 187 (mm_blk 187 1) [zR (40, 0, 0), vx1, vx2, vx3, zI x4, zI x5] [] (mm_z hi dh nx ns) Q =
    ((0 ≤ x4 ∧ x4 < 1044) ∧ (if x5 < (hi (44, 0, 0) x4) then ((0 ≤ (mm_w ((mm_w ((mm_w (24 * x4)) + x5)) + 1)) ∧ (mm_w ((mm_w ((mm_w (24 * x4)) + x5)) + 1)) < 25056) ∧ ((0 ≤ (mm_w ((mm_w (24 * x4)) + x5)) ∧ (mm_w ((mm_w (24 * x4)) + x5)) < 25056) ∧ ((0 ≤ (mm_w ((mm_w ((mm_w (24 * x4)) + x5)) + 1)) ∧ (mm_w ((mm_w ((mm_w (24 * x4)) + x5)) + 1)) < 25056) ∧ ((0 ≤ (mm_w ((mm_w (24 * x4)) + x5)) ∧ (mm_w ((mm_w (24 * x4)) + x5)) < 25056) ∧ mm_Wp 187 (mm_blk 187 1) [zR (40, 0, 0), vx1, vx2, vx3, zI x4, zI (mm_w (x5 + 1))] [] (mm_z (mm_up (mm_up hi (45, 0, 0) (mm_w ((mm_w (24 * x4)) + x5)) (hi (45, 0, 0) (mm_w ((mm_w ((mm_w (24 * x4)) + x5)) + 1)))) (46, 0, 0) (mm_w ((mm_w (24 * x4)) + x5)) ((mm_up hi (45, 0, 0) (mm_w ((mm_w (24 * x4)) + x5)) (hi (45, 0, 0) (mm_w ((mm_w ((mm_w (24 * x4)) + x5)) + 1)))) (46, 0, 0) (mm_w ((mm_w ((mm_w (24 * x4)) + x5)) + 1)))) dh nx ns) Q)))) else Q zU (mm_z hi dh nx ns))) :=
  mm_kb bq_187_1 ((wp_3_5).trans ((wp_5_0).trans ((wp_62 (by decide) (mm_o40 hy) (mm_r40_5 hy)).trans ((wp_3_4).trans ((wp_70 (mm_q44 hy)).trans (mm_ae ((wp_49).trans (mm_ic ((wp_5_0).trans ((wp_62 (by decide) (mm_o40 hy) (mm_r40_6 hy)).trans ((wp_1).trans ((wp_3_4).trans ((wp_12).trans ((wp_3_5).trans ((wp_10).trans ((wp_5_0).trans ((wp_62 (by decide) (mm_o40 hy) (mm_r40_6 hy)).trans ((wp_1).trans ((wp_3_4).trans ((wp_12).trans ((wp_3_5).trans ((wp_10).trans ((wp_1).trans ((wp_10).trans ((wp_70 (mm_q45 hy)).trans (mm_ae ((wp_74 (mm_q45 hy)).trans (mm_ae ((wp_5_0).trans ((wp_62 (by decide) (mm_o40 hy) (mm_r40_7 hy)).trans ((wp_1).trans ((wp_3_4).trans ((wp_12).trans ((wp_3_5).trans ((wp_10).trans ((wp_5_0).trans ((wp_62 (by decide) (mm_o40 hy) (mm_r40_7 hy)).trans ((wp_1).trans ((wp_3_4).trans ((wp_12).trans ((wp_3_5).trans ((wp_10).trans ((wp_1).trans ((wp_10).trans ((wp_70 (mm_q46 hy)).trans (mm_ae ((wp_74 (mm_q46 hy)).trans (mm_ae ((wp_9 (l2 := [zR (40, 0, 0), vx1, vx2, vx3, zI x4, zI (mm_w (x5 + 1))]) rfl rfl).trans ((wp_56).trans (rfl))))))))))))))))))))))))))))))))))))))))))) (mm_kb bq_187_2 (wp_93))))))))))
/-- PoolHouseModel.entriesFor(II)I -/
theorem bq_188_0 : mm_blk 188 0 = bk_188_0 := by decide +kernel
theorem bq_188_1 : mm_blk 188 1 = bk_188_1 := by decide +kernel
theorem bq_188_2 : mm_blk 188 2 = bk_188_2 := by decide +kernel
theorem bq_188_3 : mm_blk 188 3 = bk_188_3 := by decide +kernel
theorem bq_188_4 : mm_blk 188 4 = bk_188_4 := by decide +kernel
theorem bq_188_5 : mm_blk 188 5 = bk_188_5 := by decide +kernel
theorem bq_188_6 : mm_blk 188 6 = bk_188_6 := by decide +kernel
theorem r_188_e (x1 : Int) (x2 : Int) {hi : mm_Id → Int → Int} {dh : Int → Int} {nx ns : Int} {Q : mm_V → mm_H → Prop} (hy : 10581 ≤ nx) :
    mm_Cl 188 [zR (40, 0, 0), zI x1, zI x2] (mm_z hi dh nx ns) Q =
    mm_Wp 188 (mm_blk 188 1) [zR (40, 0, 0), zI x1, zI x2, zI 0, zI 1, zU] [] (mm_z hi dh nx ns) Q :=
  mm_ce (l2 := [zR (40, 0, 0), zI x1, zI x2, zU, zU, zU]) rfl (mm_kb bq_188_0 ((wp_1).trans ((wp_6 (l2 := [zR (40, 0, 0), zI x1, zI x2, zI 0, zU, zU]) rfl).trans ((wp_1).trans ((wp_6 (l2 := [zR (40, 0, 0), zI x1, zI x2, zI 0, zI 1, zU]) rfl).trans ((wp_0).trans (rfl)))))))
theorem r_188_1 (x1 : Int) (x2 : Int) (x3 : Int) (x4 : Int) (vx5 : mm_V) {hi : mm_Id → Int → Int} {dh : Int → Int} {nx ns : Int} {Q : mm_V → mm_H → Prop} (hy : 10581 ≤ nx) :
    mm_Wp 188 (mm_blk 188 1) [zR (40, 0, 0), zI x1, zI x2, zI x3, zI x4, vx5] [] (mm_z hi dh nx ns) Q =
    (if 36 < x4 then Q (zI x3) (mm_z hi dh nx ns) else mm_Wp 188 (mm_blk 188 2) [zR (40, 0, 0), zI x1, zI x2, zI x3, zI x4, zI 0] [] (mm_z hi dh nx ns) Q) :=
  mm_kb bq_188_1 ((wp_3_4).trans ((wp_1).trans ((wp_50).trans (mm_ic (mm_kb bq_188_6 ((wp_3_3).trans (wp_90))) ((wp_1).trans ((wp_6 (l2 := [zR (40, 0, 0), zI x1, zI x2, zI x3, zI x4, zI 0]) rfl).trans ((wp_0).trans (rfl))))))))
theorem r_188_2 (x1 : Int) (x2 : Int) (x3 : Int) (x4 : Int) (x5 : Int) {hi : mm_Id → Int → Int} {dh : Int → Int} {nx ns : Int} {Q : mm_V → mm_H → Prop} (hy : 10581 ≤ nx) :
    mm_Wp 188 (mm_blk 188 2) [zR (40, 0, 0), zI x1, zI x2, zI x3, zI x4, zI x5] [] (mm_z hi dh nx ns) Q =
    mm_Cl 175 [zI x1, zI x4] (mm_z hi dh nx ns) (fun r h3 => mm_Wp 188 (bk_188_2.drop 6) [zR (40, 0, 0), zI x1, zI x2, zI x3, zI x4, zI x5] (mm_push r [zR (44, 0, 0), zI x5]) h3 Q) :=
  mm_kb bq_188_2 ((wp_3_5).trans ((wp_5_0).trans ((wp_62 (by decide) (mm_o40 hy) (mm_r40_5 hy)).trans ((wp_3_1).trans ((wp_3_4).trans ((wp_s2 mm_n_175 (mm_leq mm_m_175 (mm_lb rfl)) (mm_lb rfl)).trans rfl))))))
theorem r_188_2_6 (x1 : Int) (x2 : Int) (x3 : Int) (x4 : Int) (x5 : Int) (y0 : Int) (y2 : Int) {hi : mm_Id → Int → Int} {dh : Int → Int} {nx ns : Int} {Q : mm_V → mm_H → Prop} (hy : 10581 ≤ nx) :
    mm_Wp 188 (bk_188_2.drop 6) [zR (40, 0, 0), zI x1, zI x2, zI x3, zI x4, zI x5] [zI y0, zR (44, 0, 0), zI y2] (mm_z hi dh nx ns) Q =
    ((0 ≤ y0 ∧ y0 < 1044) ∧ (if y2 < (hi (44, 0, 0) y0) then mm_Cl 185 [zR (40, 0, 0), zI x1, zI x4, zI x5] (mm_z hi dh nx ns) (fun r h3 => mm_Wp 188 (bk_188_2.drop 14) [zR (40, 0, 0), zI x1, zI x2, zI x3, zI x4, zI x5] (mm_push r [zI x3]) h3 Q) else mm_Wp 188 (mm_blk 188 1) [zR (40, 0, 0), zI x1, zI x2, zI x3, zI (mm_w (x4 + 1)), zI x5] [] (mm_z hi dh nx ns) Q)) :=
  (wp_70 (mm_q44 hy)).trans (mm_ae ((wp_49).trans (mm_ic ((wp_3_3).trans ((wp_5_0).trans ((wp_3_1).trans ((wp_3_4).trans ((wp_3_5).trans ((wp_v4 mm_n_185 (mm_leq mm_m_185 (mm_lb rfl)) (mm_lb rfl) (mm_o40 hy)).trans rfl)))))) (mm_kb bq_188_5 ((wp_9 (l2 := [zR (40, 0, 0), zI x1, zI x2, zI x3, zI (mm_w (x4 + 1)), zI x5]) rfl rfl).trans ((wp_56).trans (rfl)))))))
theorem r_188_2_14 (x1 : Int) (x2 : Int) (vx3 : mm_V) (x4 : Int) (x5 : Int) (y0 : Int) (y1 : Int) {hi : mm_Id → Int → Int} {dh : Int → Int} {nx ns : Int} {Q : mm_V → mm_H → Prop} (hy : 10581 ≤ nx) :
    mm_Wp 188 (bk_188_2.drop 14) [zR (40, 0, 0), zI x1, zI x2, vx3, zI x4, zI x5] [zI y0, zI y1] (mm_z hi dh nx ns) Q =
    (if y0 = x2 then mm_Wp 188 (mm_blk 188 4) [zR (40, 0, 0), zI x1, zI x2, vx3, zI x4, zI x5] [zI 1, zI y1] (mm_z hi dh nx ns) Q else mm_Wp 188 (mm_blk 188 4) [zR (40, 0, 0), zI x1, zI x2, vx3, zI x4, zI x5] [zI 0, zI y1] (mm_z hi dh nx ns) Q) :=
  (wp_3_2).trans ((wp_47).trans (mm_ic ((wp_1).trans ((wp_56).trans (rfl))) (mm_kb bq_188_3 ((wp_1).trans ((wp_0).trans (rfl))))))
theorem r_188_4 (x1 : Int) (x2 : Int) (vx3 : mm_V) (x4 : Int) (x5 : Int) (y0 : Int) (y1 : Int) {hi : mm_Id → Int → Int} {dh : Int → Int} {nx ns : Int} {Q : mm_V → mm_H → Prop} (hy : 10581 ≤ nx) :
    mm_Wp 188 (mm_blk 188 4) [zR (40, 0, 0), zI x1, zI x2, vx3, zI x4, zI x5] [zI y0, zI y1] (mm_z hi dh nx ns) Q =
    mm_Wp 188 (mm_blk 188 2) [zR (40, 0, 0), zI x1, zI x2, zI (mm_w (y1 + y0)), zI x4, zI (mm_w (x5 + 1))] [] (mm_z hi dh nx ns) Q :=
  mm_kb bq_188_4 ((wp_10).trans ((wp_6 (l2 := [zR (40, 0, 0), zI x1, zI x2, zI (mm_w (y1 + y0)), zI x4, zI x5]) rfl).trans ((wp_9 (l2 := [zR (40, 0, 0), zI x1, zI x2, zI (mm_w (y1 + y0)), zI x4, zI (mm_w (x5 + 1))]) rfl rfl).trans ((wp_56).trans (rfl)))))
/-- PoolHouseModel.above(II)I -/
theorem bq_189_0 : mm_blk 189 0 = bk_189_0 := by decide +kernel
theorem bq_189_1 : mm_blk 189 1 = bk_189_1 := by decide +kernel
theorem bq_189_2 : mm_blk 189 2 = bk_189_2 := by decide +kernel
theorem bq_189_3 : mm_blk 189 3 = bk_189_3 := by decide +kernel
theorem bq_189_4 : mm_blk 189 4 = bk_189_4 := by decide +kernel
theorem bq_189_5 : mm_blk 189 5 = bk_189_5 := by decide +kernel
theorem r_189_e (x1 : Int) (x2 : Int) {hi : mm_Id → Int → Int} {dh : Int → Int} {nx ns : Int} {Q : mm_V → mm_H → Prop} (hy : 10581 ≤ nx) :
    mm_Cl 189 [zR (40, 0, 0), zI x1, zI x2] (mm_z hi dh nx ns) Q =
    mm_Wp 189 (mm_blk 189 1) [zR (40, 0, 0), zI x1, zI x2, zI 1, zU] [] (mm_z hi dh nx ns) Q :=
  mm_ce (l2 := [zR (40, 0, 0), zI x1, zI x2, zU, zU]) rfl (mm_kb bq_189_0 ((wp_1).trans ((wp_6 (l2 := [zR (40, 0, 0), zI x1, zI x2, zI 1, zU]) rfl).trans ((wp_0).trans (rfl)))))
theorem r_189_1 (x1 : Int) (x2 : Int) (x3 : Int) (vx4 : mm_V) {hi : mm_Id → Int → Int} {dh : Int → Int} {nx ns : Int} {Q : mm_V → mm_H → Prop} (hy : 10581 ≤ nx) :
    mm_Wp 189 (mm_blk 189 1) [zR (40, 0, 0), zI x1, zI x2, zI x3, vx4] [] (mm_z hi dh nx ns) Q =
    (if 36 < x3 then Q (zI 0) (mm_z hi dh nx ns) else mm_Wp 189 (mm_blk 189 2) [zR (40, 0, 0), zI x1, zI x2, zI x3, zI 0] [] (mm_z hi dh nx ns) Q) :=
  mm_kb bq_189_1 ((wp_3_3).trans ((wp_1).trans ((wp_50).trans (mm_ic (mm_kb bq_189_5 ((wp_1).trans (wp_90))) ((wp_1).trans ((wp_6 (l2 := [zR (40, 0, 0), zI x1, zI x2, zI x3, zI 0]) rfl).trans ((wp_0).trans (rfl))))))))
theorem r_189_2 (x1 : Int) (x2 : Int) (x3 : Int) (x4 : Int) {hi : mm_Id → Int → Int} {dh : Int → Int} {nx ns : Int} {Q : mm_V → mm_H → Prop} (hy : 10581 ≤ nx) :
    mm_Wp 189 (mm_blk 189 2) [zR (40, 0, 0), zI x1, zI x2, zI x3, zI x4] [] (mm_z hi dh nx ns) Q =
    mm_Cl 175 [zI x1, zI x3] (mm_z hi dh nx ns) (fun r h3 => mm_Wp 189 (bk_189_2.drop 6) [zR (40, 0, 0), zI x1, zI x2, zI x3, zI x4] (mm_push r [zR (44, 0, 0), zI x4]) h3 Q) :=
  mm_kb bq_189_2 ((wp_3_4).trans ((wp_5_0).trans ((wp_62 (by decide) (mm_o40 hy) (mm_r40_5 hy)).trans ((wp_3_1).trans ((wp_3_3).trans ((wp_s2 mm_n_175 (mm_leq mm_m_175 (mm_lb rfl)) (mm_lb rfl)).trans rfl))))))
theorem r_189_2_6 (x1 : Int) (x2 : Int) (x3 : Int) (x4 : Int) (y0 : Int) (y2 : Int) {hi : mm_Id → Int → Int} {dh : Int → Int} {nx ns : Int} {Q : mm_V → mm_H → Prop} (hy : 10581 ≤ nx) :
    mm_Wp 189 (bk_189_2.drop 6) [zR (40, 0, 0), zI x1, zI x2, zI x3, zI x4] [zI y0, zR (44, 0, 0), zI y2] (mm_z hi dh nx ns) Q =
    ((0 ≤ y0 ∧ y0 < 1044) ∧ (if y2 < (hi (44, 0, 0) y0) then mm_Cl 185 [zR (40, 0, 0), zI x1, zI x3, zI x4] (mm_z hi dh nx ns) (fun r h3 => mm_Wp 189 (bk_189_2.drop 13) [zR (40, 0, 0), zI x1, zI x2, zI x3, zI x4] (mm_push r []) h3 Q) else mm_Wp 189 (mm_blk 189 1) [zR (40, 0, 0), zI x1, zI x2, zI (mm_w (x3 + 1)), zI x4] [] (mm_z hi dh nx ns) Q)) :=
  (wp_70 (mm_q44 hy)).trans (mm_ae ((wp_49).trans (mm_ic ((wp_5_0).trans ((wp_3_1).trans ((wp_3_3).trans ((wp_3_4).trans ((wp_v4 mm_n_185 (mm_leq mm_m_185 (mm_lb rfl)) (mm_lb rfl) (mm_o40 hy)).trans rfl))))) (mm_kb bq_189_4 ((wp_9 (l2 := [zR (40, 0, 0), zI x1, zI x2, zI (mm_w (x3 + 1)), zI x4]) rfl rfl).trans ((wp_56).trans (rfl)))))))
theorem r_189_2_13 (x1 : Int) (x2 : Int) (x3 : Int) (x4 : Int) (y0 : Int) {hi : mm_Id → Int → Int} {dh : Int → Int} {nx ns : Int} {Q : mm_V → mm_H → Prop} (hy : 10581 ≤ nx) :
    mm_Wp 189 (bk_189_2.drop 13) [zR (40, 0, 0), zI x1, zI x2, zI x3, zI x4] [zI y0] (mm_z hi dh nx ns) Q =
    (if y0 = x2 then Q (zI x3) (mm_z hi dh nx ns) else mm_Wp 189 (mm_blk 189 2) [zR (40, 0, 0), zI x1, zI x2, zI x3, zI (mm_w (x4 + 1))] [] (mm_z hi dh nx ns) Q) :=
  (wp_3_2).trans ((wp_47).trans (mm_ic ((wp_3_3).trans (wp_90)) (mm_kb bq_189_3 ((wp_9 (l2 := [zR (40, 0, 0), zI x1, zI x2, zI x3, zI (mm_w (x4 + 1))]) rfl rfl).trans ((wp_56).trans (rfl))))))
/-- PoolHouseModel.isOpen(II)Z -/
theorem bq_190_0 : mm_blk 190 0 = bk_190_0 := by decide +kernel
theorem bq_190_1 : mm_blk 190 1 = bk_190_1 := by decide +kernel
theorem bq_190_2 : mm_blk 190 2 = bk_190_2 := by decide +kernel
theorem bq_190_3 : mm_blk 190 3 = bk_190_3 := by decide +kernel
theorem bq_190_4 : mm_blk 190 4 = bk_190_4 := by decide +kernel
theorem bq_190_5 : mm_blk 190 5 = bk_190_5 := by decide +kernel
theorem r_190_e (x1 : Int) (x2 : Int) {hi : mm_Id → Int → Int} {dh : Int → Int} {nx ns : Int} {Q : mm_V → mm_H → Prop} (hy : 10581 ≤ nx) :
    mm_Cl 190 [zR (40, 0, 0), zI x1, zI x2] (mm_z hi dh nx ns) Q =
    mm_Wp 190 (mm_blk 190 1) [zR (40, 0, 0), zI x1, zI x2, zI 0, zI 1] [] (mm_z hi dh nx ns) Q :=
  mm_ce (l2 := [zR (40, 0, 0), zI x1, zI x2, zU, zU]) rfl (mm_kb bq_190_0 ((wp_1).trans ((wp_6 (l2 := [zR (40, 0, 0), zI x1, zI x2, zI 0, zU]) rfl).trans ((wp_1).trans ((wp_6 (l2 := [zR (40, 0, 0), zI x1, zI x2, zI 0, zI 1]) rfl).trans ((wp_0).trans (rfl)))))))
theorem r_190_1 (x1 : Int) (x2 : Int) (x3 : Int) (x4 : Int) {hi : mm_Id → Int → Int} {dh : Int → Int} {nx ns : Int} {Q : mm_V → mm_H → Prop} (hy : 10581 ≤ nx) :
    mm_Wp 190 (mm_blk 190 1) [zR (40, 0, 0), zI x1, zI x2, zI x3, zI x4] [] (mm_z hi dh nx ns) Q =
    (if 8 < x4 then ((x3 = 0 ∨ x3 = 1) ∧ Q (zI x3) (mm_z hi dh nx ns)) else (if x3 = 0 then ((0 ≤ x4 ∧ x4 < 9) ∧ (if (hi (63, 0, 0) x4) = x2 then ((0 ≤ x4 ∧ x4 < 9) ∧ (if (hi (62, 0, 0) x4) = x1 then mm_Wp 190 (mm_blk 190 2) [zR (40, 0, 0), zI x1, zI x2, zI x3, zI x4] [] (mm_z hi dh nx ns) Q else mm_Wp 190 (mm_blk 190 3) [zR (40, 0, 0), zI x1, zI x2, zI x3, zI x4] [] (mm_z hi dh nx ns) Q)) else mm_Wp 190 (mm_blk 190 3) [zR (40, 0, 0), zI x1, zI x2, zI x3, zI x4] [] (mm_z hi dh nx ns) Q)) else mm_Wp 190 (mm_blk 190 2) [zR (40, 0, 0), zI x1, zI x2, zI x3, zI x4] [] (mm_z hi dh nx ns) Q)) :=
  mm_kb bq_190_1 ((wp_3_4).trans ((wp_1).trans ((wp_50).trans (mm_ic (mm_kb bq_190_5 ((wp_3_3).trans (wp_94z))) ((wp_3_3).trans ((wp_41).trans (mm_ic ((wp_5_0).trans ((wp_62 (by decide) (mm_o40 hy) (mm_r40_27 hy)).trans ((wp_3_4).trans ((wp_70 (mm_q63 hy)).trans (mm_ae ((wp_3_2).trans ((wp_47).trans (mm_ic ((wp_5_0).trans ((wp_62 (by decide) (mm_o40 hy) (mm_r40_26 hy)).trans ((wp_3_4).trans ((wp_70 (mm_q62 hy)).trans (mm_ae ((wp_3_1).trans ((wp_47).trans (mm_ic ((wp_0).trans (rfl)) (rfl))))))))) (rfl))))))))) (rfl))))))))
theorem r_190_2 (x1 : Int) (x2 : Int) (vx3 : mm_V) (x4 : Int) {hi : mm_Id → Int → Int} {dh : Int → Int} {nx ns : Int} {Q : mm_V → mm_H → Prop} (hy : 10581 ≤ nx) :
    mm_Wp 190 (mm_blk 190 2) [zR (40, 0, 0), zI x1, zI x2, vx3, zI x4] [] (mm_z hi dh nx ns) Q =
    mm_Wp 190 (mm_blk 190 4) [zR (40, 0, 0), zI x1, zI x2, vx3, zI x4] [zI 1] (mm_z hi dh nx ns) Q :=
  mm_kb bq_190_2 ((wp_1).trans ((wp_56).trans (rfl)))
theorem r_190_3 (x1 : Int) (x2 : Int) (vx3 : mm_V) (x4 : Int) {hi : mm_Id → Int → Int} {dh : Int → Int} {nx ns : Int} {Q : mm_V → mm_H → Prop} (hy : 10581 ≤ nx) :
    mm_Wp 190 (mm_blk 190 3) [zR (40, 0, 0), zI x1, zI x2, vx3, zI x4] [] (mm_z hi dh nx ns) Q =
    mm_Wp 190 (mm_blk 190 4) [zR (40, 0, 0), zI x1, zI x2, vx3, zI x4] [zI 0] (mm_z hi dh nx ns) Q :=
  mm_kb bq_190_3 ((wp_1).trans ((wp_0).trans (rfl)))
theorem r_190_4 (x1 : Int) (x2 : Int) (vx3 : mm_V) (x4 : Int) (y0 : Int) {hi : mm_Id → Int → Int} {dh : Int → Int} {nx ns : Int} {Q : mm_V → mm_H → Prop} (hy : 10581 ≤ nx) :
    mm_Wp 190 (mm_blk 190 4) [zR (40, 0, 0), zI x1, zI x2, vx3, zI x4] [zI y0] (mm_z hi dh nx ns) Q =
    mm_Wp 190 (mm_blk 190 1) [zR (40, 0, 0), zI x1, zI x2, zI y0, zI (mm_w (x4 + 1))] [] (mm_z hi dh nx ns) Q :=
  mm_kb bq_190_4 ((wp_6 (l2 := [zR (40, 0, 0), zI x1, zI x2, zI y0, zI x4]) rfl).trans ((wp_9 (l2 := [zR (40, 0, 0), zI x1, zI x2, zI y0, zI (mm_w (x4 + 1))]) rfl rfl).trans ((wp_56).trans (rfl))))
/-- PoolHouseModel.sweepFiles(I)V -/
theorem bq_191_0 : mm_blk 191 0 = bk_191_0 := by decide +kernel
theorem bq_191_1 : mm_blk 191 1 = bk_191_1 := by decide +kernel
theorem bq_191_2 : mm_blk 191 2 = bk_191_2 := by decide +kernel
theorem bq_191_3 : mm_blk 191 3 = bk_191_3 := by decide +kernel
theorem r_191_e (x1 : Int) {hi : mm_Id → Int → Int} {dh : Int → Int} {nx ns : Int} {Q : mm_V → mm_H → Prop} (hy : 10581 ≤ nx) :
    mm_Cl 191 [zR (40, 0, 0), zI x1] (mm_z hi dh nx ns) Q =
    mm_Wp 191 (mm_blk 191 1) [zR (40, 0, 0), zI x1, zI 1] [] (mm_z hi dh nx ns) Q :=
  mm_ce (l2 := [zR (40, 0, 0), zI x1, zU]) rfl (mm_kb bq_191_0 ((wp_1).trans ((wp_6 (l2 := [zR (40, 0, 0), zI x1, zI 1]) rfl).trans ((wp_0).trans (rfl)))))
theorem r_191_1 (x1 : Int) (x2 : Int) {hi : mm_Id → Int → Int} {dh : Int → Int} {nx ns : Int} {Q : mm_V → mm_H → Prop} (hy : 10581 ≤ nx) :
    mm_Wp 191 (mm_blk 191 1) [zR (40, 0, 0), zI x1, zI x2] [] (mm_z hi dh nx ns) Q =
    (if 36 < x2 then Q zU (mm_z hi dh nx ns) else mm_Cl 177 [zR (40, 0, 0), zI x1, zI x2] (mm_z hi dh nx ns) (fun r h3 => mm_Wp 191 (bk_191_1.drop 7) [zR (40, 0, 0), zI x1, zI x2] (mm_push r []) h3 Q)) :=
  mm_kb bq_191_1 ((wp_3_2).trans ((wp_1).trans ((wp_50).trans (mm_ic (mm_kb bq_191_3 (wp_93)) ((wp_5_0).trans ((wp_3_1).trans ((wp_3_2).trans ((wp_v3 mm_n_177 (mm_leq mm_m_177 (mm_lb rfl)) (mm_lb rfl) (mm_o40 hy)).trans rfl))))))))
theorem r_191_1_7 (x1 : Int) (x2 : Int) (y0 : Int) {hi : mm_Id → Int → Int} {dh : Int → Int} {nx ns : Int} {Q : mm_V → mm_H → Prop} (hy : 10581 ≤ nx) :
    mm_Wp 191 (bk_191_1.drop 7) [zR (40, 0, 0), zI x1, zI x2] [zI y0] (mm_z hi dh nx ns) Q =
    (if y0 = 0 then mm_Wp 191 (mm_blk 191 2) [zR (40, 0, 0), zI x1, zI x2] [] (mm_z hi dh nx ns) Q else mm_Cl 188 [zR (40, 0, 0), zI x1, zI x2] (mm_z hi dh nx ns) (fun r h3 => mm_Wp 191 (bk_191_1.drop 12) [zR (40, 0, 0), zI x1, zI x2] (mm_push r []) h3 Q)) :=
  (wp_40).trans (mm_ic (rfl) ((wp_5_0).trans ((wp_3_1).trans ((wp_3_2).trans ((wp_v3 mm_n_188 (mm_leq mm_m_188 (mm_lb rfl)) (mm_lb rfl) (mm_o40 hy)).trans rfl)))))
theorem r_191_2 (x1 : Int) (x2 : Int) {hi : mm_Id → Int → Int} {dh : Int → Int} {nx ns : Int} {Q : mm_V → mm_H → Prop} (hy : 10581 ≤ nx) :
    mm_Wp 191 (mm_blk 191 2) [zR (40, 0, 0), zI x1, zI x2] [] (mm_z hi dh nx ns) Q =
    mm_Wp 191 (mm_blk 191 1) [zR (40, 0, 0), zI x1, zI (mm_w (x2 + 1))] [] (mm_z hi dh nx ns) Q :=
  mm_kb bq_191_2 ((wp_9 (l2 := [zR (40, 0, 0), zI x1, zI (mm_w (x2 + 1))]) rfl rfl).trans ((wp_56).trans (rfl)))
theorem r_191_1_12 (x1 : Int) (x2 : Int) (y0 : Int) {hi : mm_Id → Int → Int} {dh : Int → Int} {nx ns : Int} {Q : mm_V → mm_H → Prop} (hy : 10581 ≤ nx) :
    mm_Wp 191 (bk_191_1.drop 12) [zR (40, 0, 0), zI x1, zI x2] [zI y0] (mm_z hi dh nx ns) Q =
    (if y0 = 0 then mm_Cl 190 [zR (40, 0, 0), zI x1, zI x2] (mm_z hi dh nx ns) (fun r h3 => mm_Wp 191 (bk_191_1.drop 17) [zR (40, 0, 0), zI x1, zI x2] (mm_push r []) h3 Q) else mm_Wp 191 (mm_blk 191 2) [zR (40, 0, 0), zI x1, zI x2] [] (mm_z hi dh nx ns) Q) :=
  (wp_41).trans (mm_ic ((wp_5_0).trans ((wp_3_1).trans ((wp_3_2).trans ((wp_v3 mm_n_190 (mm_leq mm_m_190 (mm_lb rfl)) (mm_lb rfl) (mm_o40 hy)).trans rfl)))) (rfl))
theorem r_191_1_17 (x1 : Int) (x2 : Int) (y0 : Int) {hi : mm_Id → Int → Int} {dh : Int → Int} {nx ns : Int} {Q : mm_V → mm_H → Prop} (hy : 10581 ≤ nx) :
    mm_Wp 191 (bk_191_1.drop 17) [zR (40, 0, 0), zI x1, zI x2] [zI y0] (mm_z hi dh nx ns) Q =
    (if y0 = 0 then mm_Cl 175 [zI x1, zI x2] (mm_z hi dh nx ns) (fun r h3 => mm_Wp 191 (bk_191_1.drop 22) [zR (40, 0, 0), zI x1, zI x2] (mm_push r [zR (40, 0, 0)]) h3 Q) else mm_Wp 191 (mm_blk 191 2) [zR (40, 0, 0), zI x1, zI x2] [] (mm_z hi dh nx ns) Q) :=
  (wp_41).trans (mm_ic ((wp_5_0).trans ((wp_3_1).trans ((wp_3_2).trans ((wp_s2 mm_n_175 (mm_leq mm_m_175 (mm_lb rfl)) (mm_lb rfl)).trans rfl)))) (rfl))
theorem r_191_1_22 (x1 : Int) (x2 : Int) (y0 : Int) {hi : mm_Id → Int → Int} {dh : Int → Int} {nx ns : Int} {Q : mm_V → mm_H → Prop} (hy : 10581 ≤ nx) :
    mm_Wp 191 (bk_191_1.drop 22) [zR (40, 0, 0), zI x1, zI x2] [zI y0, zR (40, 0, 0)] (mm_z hi dh nx ns) Q =
    mm_Cl 180 [zR (40, 0, 0), zI y0] (mm_z hi dh nx ns) (fun r h3 => mm_Wp 191 (bk_191_1.drop 23) [zR (40, 0, 0), zI x1, zI x2] (mm_push r []) h3 Q) :=
  (wp_v2 mm_n_180 (mm_leq mm_m_180 (mm_lb rfl)) (mm_lb rfl) (mm_o40 hy)).trans rfl
theorem r_191_1_23 (x1 : Int) (x2 : Int) {hi : mm_Id → Int → Int} {dh : Int → Int} {nx ns : Int} {Q : mm_V → mm_H → Prop} (hy : 10581 ≤ nx) :
    mm_Wp 191 (bk_191_1.drop 23) [zR (40, 0, 0), zI x1, zI x2] [] (mm_z hi dh nx ns) Q =
    mm_Wp 191 (mm_blk 191 2) [zR (40, 0, 0), zI x1, zI x2] [] (mm_z hi dh nx ns) Q :=
  (wp_0).trans (rfl)
/-- PoolHouseModel.forget(I)V -/
theorem bq_192_0 : mm_blk 192 0 = bk_192_0 := by decide +kernel
theorem bq_192_1 : mm_blk 192 1 = bk_192_1 := by decide +kernel
theorem bq_192_2 : mm_blk 192 2 = bk_192_2 := by decide +kernel
theorem r_192_e (x1 : Int) {hi : mm_Id → Int → Int} {dh : Int → Int} {nx ns : Int} {Q : mm_V → mm_H → Prop} (hy : 10581 ≤ nx) :
    mm_Cl 192 [zR (40, 0, 0), zI x1] (mm_z hi dh nx ns) Q =
    ((0 ≤ x1 ∧ x1 < 9) ∧ mm_Wp 192 (mm_blk 192 1) [zR (40, 0, 0), zI x1, zI 0] [] (mm_z (mm_up hi (63, 0, 0) x1 0) dh nx ns) Q) :=
  mm_ce (l2 := [zR (40, 0, 0), zI x1, zU]) rfl (mm_kb bq_192_0 ((wp_5_0).trans ((wp_62 (by decide) (mm_o40 hy) (mm_r40_27 hy)).trans ((wp_3_1).trans ((wp_1).trans ((wp_74 (mm_q63 hy)).trans (mm_ae ((wp_1).trans ((wp_6 (l2 := [zR (40, 0, 0), zI x1, zI 0]) rfl).trans ((wp_0).trans (rfl)))))))))))
theorem r_192_1 (x1 : Int) (x2 : Int) {hi : mm_Id → Int → Int} {dh : Int → Int} {nx ns : Int} {Q : mm_V → mm_H → Prop} (hy : 10581 ≤ nx) :
    mm_Wp 192 (mm_blk 192 1) [zR (40, 0, 0), zI x1, zI x2] [] (mm_z hi dh nx ns) Q =
    (if x2 < 2160 then ((0 ≤ (mm_w ((mm_w (2160 * x1)) + x2)) ∧ (mm_w ((mm_w (2160 * x1)) + x2)) < 19440) ∧ mm_Wp 192 (mm_blk 192 1) [zR (40, 0, 0), zI x1, zI (mm_w (x2 + 1))] [] (mm_z (mm_up hi (64, 0, 0) (mm_w ((mm_w (2160 * x1)) + x2)) (mm_b 0)) dh nx ns) Q) else Q zU (mm_z hi dh nx ns)) :=
  mm_kb bq_192_1 ((wp_3_2).trans ((wp_1).trans ((wp_49).trans (mm_ic ((wp_5_0).trans ((wp_62 (by decide) (mm_o40 hy) (mm_r40_28 hy)).trans ((wp_1).trans ((wp_3_1).trans ((wp_12).trans ((wp_3_2).trans ((wp_10).trans ((wp_1).trans ((wp_75 (mm_q64 hy)).trans (mm_ae ((wp_9 (l2 := [zR (40, 0, 0), zI x1, zI (mm_w (x2 + 1))]) rfl rfl).trans ((wp_56).trans (rfl))))))))))))) (mm_kb bq_192_2 (wp_93))))))
/-- PoolHouseModel.closeAll(I)V -/
theorem bq_193_0 : mm_blk 193 0 = bk_193_0 := by decide +kernel
theorem bq_193_1 : mm_blk 193 1 = bk_193_1 := by decide +kernel
theorem bq_193_2 : mm_blk 193 2 = bk_193_2 := by decide +kernel
theorem bq_193_3 : mm_blk 193 3 = bk_193_3 := by decide +kernel
theorem r_193_e (x1 : Int) {hi : mm_Id → Int → Int} {dh : Int → Int} {nx ns : Int} {Q : mm_V → mm_H → Prop} (hy : 10581 ≤ nx) :
    mm_Cl 193 [zR (40, 0, 0), zI x1] (mm_z hi dh nx ns) Q =
    mm_Wp 193 (mm_blk 193 1) [zR (40, 0, 0), zI x1, zI 1] [] (mm_z hi dh nx ns) Q :=
  mm_ce (l2 := [zR (40, 0, 0), zI x1, zU]) rfl (mm_kb bq_193_0 ((wp_1).trans ((wp_6 (l2 := [zR (40, 0, 0), zI x1, zI 1]) rfl).trans ((wp_0).trans (rfl)))))
theorem r_193_1 (x1 : Int) (x2 : Int) {hi : mm_Id → Int → Int} {dh : Int → Int} {nx ns : Int} {Q : mm_V → mm_H → Prop} (hy : 10581 ≤ nx) :
    mm_Wp 193 (mm_blk 193 1) [zR (40, 0, 0), zI x1, zI x2] [] (mm_z hi dh nx ns) Q =
    (if 8 < x2 then Q zU (mm_z hi dh nx ns) else ((0 ≤ x2 ∧ x2 < 9) ∧ (if 0 < (hi (63, 0, 0) x2) then ((0 ≤ x2 ∧ x2 < 9) ∧ (if (hi (62, 0, 0) x2) = x1 then mm_Cl 192 [zR (40, 0, 0), zI x2] (mm_z hi dh nx ns) (fun r h3 => mm_Wp 193 (bk_193_1.drop 17) [zR (40, 0, 0), zI x1, zI x2] (mm_push r []) h3 Q) else mm_Wp 193 (mm_blk 193 2) [zR (40, 0, 0), zI x1, zI x2] [] (mm_z hi dh nx ns) Q)) else mm_Wp 193 (mm_blk 193 2) [zR (40, 0, 0), zI x1, zI x2] [] (mm_z hi dh nx ns) Q))) :=
  mm_kb bq_193_1 ((wp_3_2).trans ((wp_1).trans ((wp_50).trans (mm_ic (mm_kb bq_193_3 (wp_93)) ((wp_5_0).trans ((wp_62 (by decide) (mm_o40 hy) (mm_r40_27 hy)).trans ((wp_3_2).trans ((wp_70 (mm_q63 hy)).trans (mm_ae ((wp_45).trans (mm_ic ((wp_5_0).trans ((wp_62 (by decide) (mm_o40 hy) (mm_r40_26 hy)).trans ((wp_3_2).trans ((wp_70 (mm_q62 hy)).trans (mm_ae ((wp_3_1).trans ((wp_47).trans (mm_ic ((wp_5_0).trans ((wp_3_2).trans ((wp_v2 mm_n_192 (mm_leq mm_m_192 (mm_lb rfl)) (mm_lb rfl) (mm_o40 hy)).trans rfl))) (rfl))))))))) (rfl))))))))))))
theorem r_193_2 (x1 : Int) (x2 : Int) {hi : mm_Id → Int → Int} {dh : Int → Int} {nx ns : Int} {Q : mm_V → mm_H → Prop} (hy : 10581 ≤ nx) :
    mm_Wp 193 (mm_blk 193 2) [zR (40, 0, 0), zI x1, zI x2] [] (mm_z hi dh nx ns) Q =
    mm_Wp 193 (mm_blk 193 1) [zR (40, 0, 0), zI x1, zI (mm_w (x2 + 1))] [] (mm_z hi dh nx ns) Q :=
  mm_kb bq_193_2 ((wp_9 (l2 := [zR (40, 0, 0), zI x1, zI (mm_w (x2 + 1))]) rfl rfl).trans ((wp_56).trans (rfl)))
theorem r_193_1_17 (x1 : Int) (x2 : Int) {hi : mm_Id → Int → Int} {dh : Int → Int} {nx ns : Int} {Q : mm_V → mm_H → Prop} (hy : 10581 ≤ nx) :
    mm_Wp 193 (bk_193_1.drop 17) [zR (40, 0, 0), zI x1, zI x2] [] (mm_z hi dh nx ns) Q =
    mm_Wp 193 (mm_blk 193 2) [zR (40, 0, 0), zI x1, zI x2] [] (mm_z hi dh nx ns) Q :=
  (wp_0).trans (rfl)
/-- PoolHouseModel.takeUp(I)V -/
theorem bq_194_0 : mm_blk 194 0 = bk_194_0 := by decide +kernel
theorem r_194_e (x1 : Int) {hi : mm_Id → Int → Int} {dh : Int → Int} {nx ns : Int} {Q : mm_V → mm_H → Prop} (hy : 10581 ≤ nx) :
    mm_Cl 194 [zR (40, 0, 0), zI x1] (mm_z hi dh nx ns) Q =
    mm_Cl 193 [zR (40, 0, 0), zI x1] (mm_z hi dh nx ns) (fun r h3 => mm_Wp 194 (bk_194_0.drop 3) [zR (40, 0, 0), zI x1] (mm_push r []) h3 Q) :=
  mm_ce (l2 := [zR (40, 0, 0), zI x1]) rfl (mm_kb bq_194_0 ((wp_5_0).trans ((wp_3_1).trans ((wp_v2 mm_n_193 (mm_leq mm_m_193 (mm_lb rfl)) (mm_lb rfl) (mm_o40 hy)).trans rfl))))
theorem r_194_0_3 (x1 : Int) {hi : mm_Id → Int → Int} {dh : Int → Int} {nx ns : Int} {Q : mm_V → mm_H → Prop} (hy : 10581 ≤ nx) :
    mm_Wp 194 (bk_194_0.drop 3) [zR (40, 0, 0), zI x1] [] (mm_z hi dh nx ns) Q =
    mm_Cl 191 [zR (40, 0, 0), zI x1] (mm_z hi dh nx ns) (fun r h3 => mm_Wp 194 (bk_194_0.drop 6) [zR (40, 0, 0), zI x1] (mm_push r []) h3 Q) :=
  (wp_5_0).trans ((wp_3_1).trans ((wp_v2 mm_n_191 (mm_leq mm_m_191 (mm_lb rfl)) (mm_lb rfl) (mm_o40 hy)).trans rfl))
theorem r_194_0_6 (vx0 : mm_V) (vx1 : mm_V) {hi : mm_Id → Int → Int} {dh : Int → Int} {nx ns : Int} {Q : mm_V → mm_H → Prop} (hy : 10581 ≤ nx) :
    mm_Wp 194 (bk_194_0.drop 6) [vx0, vx1] [] (mm_z hi dh nx ns) Q =
    Q zU (mm_z hi dh nx ns) :=
  wp_93
/-- PoolHouseModel.sweepBlocks()V -/
theorem bq_195_0 : mm_blk 195 0 = bk_195_0 := by decide +kernel
theorem bq_195_1 : mm_blk 195 1 = bk_195_1 := by decide +kernel
theorem bq_195_2 : mm_blk 195 2 = bk_195_2 := by decide +kernel
theorem bq_195_3 : mm_blk 195 3 = bk_195_3 := by decide +kernel
theorem bq_195_4 : mm_blk 195 4 = bk_195_4 := by decide +kernel
theorem bq_195_5 : mm_blk 195 5 = bk_195_5 := by decide +kernel
theorem bq_195_6 : mm_blk 195 6 = bk_195_6 := by decide +kernel
theorem bq_195_7 : mm_blk 195 7 = bk_195_7 := by decide +kernel
theorem bq_195_8 : mm_blk 195 8 = bk_195_8 := by decide +kernel
theorem r_195_e  {hi : mm_Id → Int → Int} {dh : Int → Int} {nx ns : Int} {Q : mm_V → mm_H → Prop} (hy : 10581 ≤ nx) :
    mm_Cl 195 [zR (40, 0, 0)] (mm_z hi dh nx ns) Q =
    mm_Wp 195 (mm_blk 195 1) [zR (40, 0, 0), zI 1, zU, zU] [] (mm_z hi dh nx ns) Q :=
  mm_ce (l2 := [zR (40, 0, 0), zU, zU, zU]) rfl (mm_kb bq_195_0 ((wp_1).trans ((wp_6 (l2 := [zR (40, 0, 0), zI 1, zU, zU]) rfl).trans ((wp_0).trans (rfl)))))
theorem r_195_1 (x1 : Int) (vx2 : mm_V) (vx3 : mm_V) {hi : mm_Id → Int → Int} {dh : Int → Int} {nx ns : Int} {Q : mm_V → mm_H → Prop} (hy : 10581 ≤ nx) :
    mm_Wp 195 (mm_blk 195 1) [zR (40, 0, 0), zI x1, vx2, vx3] [] (mm_z hi dh nx ns) Q =
    (if 3000 < x1 then mm_Wp 195 (mm_blk 195 3) [zR (40, 0, 0), zI 0, vx2, vx3] [] (mm_z hi dh nx ns) Q else ((0 ≤ x1 ∧ x1 < 3001) ∧ mm_Wp 195 (mm_blk 195 1) [zR (40, 0, 0), zI (mm_w (x1 + 1)), vx2, vx3] [] (mm_z (mm_up hi (55, 0, 0) x1 0) dh nx ns) Q)) :=
  mm_kb bq_195_1 ((wp_3_1).trans ((wp_1).trans ((wp_50).trans (mm_ic (mm_kb bq_195_2 ((wp_1).trans ((wp_6 (l2 := [zR (40, 0, 0), zI 0, vx2, vx3]) rfl).trans ((wp_0).trans (rfl))))) ((wp_5_0).trans ((wp_62 (by decide) (mm_o40 hy) (mm_r40_16 hy)).trans ((wp_3_1).trans ((wp_1).trans ((wp_75z (by decide) (mm_q55 hy)).trans (mm_ae ((wp_9 (l2 := [zR (40, 0, 0), zI (mm_w (x1 + 1)), vx2, vx3]) rfl rfl).trans ((wp_56).trans (rfl)))))))))))))
theorem r_195_3 (x1 : Int) (vx2 : mm_V) (vx3 : mm_V) {hi : mm_Id → Int → Int} {dh : Int → Int} {nx ns : Int} {Q : mm_V → mm_H → Prop} (hy : 10581 ≤ nx) :
    mm_Wp 195 (mm_blk 195 3) [zR (40, 0, 0), zI x1, vx2, vx3] [] (mm_z hi dh nx ns) Q =
    (if x1 < 29 then mm_Wp 195 (mm_blk 195 4) [zR (40, 0, 0), zI x1, zI 1, vx3] [] (mm_z hi dh nx ns) Q else Q zU (mm_z (mm_up hi (40, 0, 0) 18 0) dh nx ns)) :=
  mm_kb bq_195_3 ((wp_3_1).trans ((wp_1).trans ((wp_49).trans (mm_ic ((wp_1).trans ((wp_6 (l2 := [zR (40, 0, 0), zI x1, zI 1, vx3]) rfl).trans ((wp_0).trans (rfl)))) (mm_kb bq_195_8 ((wp_5_0).trans ((wp_1).trans ((wp_63 (mm_o40 hy)).trans (wp_93)))))))))
theorem r_195_4 (x1 : Int) (x2 : Int) (vx3 : mm_V) {hi : mm_Id → Int → Int} {dh : Int → Int} {nx ns : Int} {Q : mm_V → mm_H → Prop} (hy : 10581 ≤ nx) :
    mm_Wp 195 (mm_blk 195 4) [zR (40, 0, 0), zI x1, zI x2, vx3] [] (mm_z hi dh nx ns) Q =
    (if 36 < x2 then mm_Wp 195 (mm_blk 195 3) [zR (40, 0, 0), zI (mm_w (x1 + 1)), zI x2, vx3] [] (mm_z hi dh nx ns) Q else mm_Cl 177 [zR (40, 0, 0), zI x1, zI x2] (mm_z hi dh nx ns) (fun r h3 => mm_Wp 195 (bk_195_4.drop 7) [zR (40, 0, 0), zI x1, zI x2, vx3] (mm_push r []) h3 Q)) :=
  mm_kb bq_195_4 ((wp_3_2).trans ((wp_1).trans ((wp_50).trans (mm_ic (mm_kb bq_195_7 ((wp_9 (l2 := [zR (40, 0, 0), zI (mm_w (x1 + 1)), zI x2, vx3]) rfl rfl).trans ((wp_56).trans (rfl)))) ((wp_5_0).trans ((wp_3_1).trans ((wp_3_2).trans ((wp_v3 mm_n_177 (mm_leq mm_m_177 (mm_lb rfl)) (mm_lb rfl) (mm_o40 hy)).trans rfl))))))))
theorem r_195_4_7 (x1 : Int) (x2 : Int) (vx3 : mm_V) (y0 : Int) {hi : mm_Id → Int → Int} {dh : Int → Int} {nx ns : Int} {Q : mm_V → mm_H → Prop} (hy : 10581 ≤ nx) :
    mm_Wp 195 (bk_195_4.drop 7) [zR (40, 0, 0), zI x1, zI x2, vx3] [zI y0] (mm_z hi dh nx ns) Q =
    (if y0 = 0 then mm_Wp 195 (mm_blk 195 6) [zR (40, 0, 0), zI x1, zI x2, vx3] [] (mm_z hi dh nx ns) Q else mm_Wp 195 (mm_blk 195 5) [zR (40, 0, 0), zI x1, zI x2, zI 0] [] (mm_z hi dh nx ns) Q) :=
  (wp_40).trans (mm_ic (rfl) ((wp_1).trans ((wp_6 (l2 := [zR (40, 0, 0), zI x1, zI x2, zI 0]) rfl).trans ((wp_0).trans (rfl)))))
theorem r_195_6 (x1 : Int) (x2 : Int) (vx3 : mm_V) {hi : mm_Id → Int → Int} {dh : Int → Int} {nx ns : Int} {Q : mm_V → mm_H → Prop} (hy : 10581 ≤ nx) :
    mm_Wp 195 (mm_blk 195 6) [zR (40, 0, 0), zI x1, zI x2, vx3] [] (mm_z hi dh nx ns) Q =
    mm_Wp 195 (mm_blk 195 4) [zR (40, 0, 0), zI x1, zI (mm_w (x2 + 1)), vx3] [] (mm_z hi dh nx ns) Q :=
  mm_kb bq_195_6 ((wp_9 (l2 := [zR (40, 0, 0), zI x1, zI (mm_w (x2 + 1)), vx3]) rfl rfl).trans ((wp_56).trans (rfl)))
theorem r_195_5 (x1 : Int) (x2 : Int) (x3 : Int) {hi : mm_Id → Int → Int} {dh : Int → Int} {nx ns : Int} {Q : mm_V → mm_H → Prop} (hy : 10581 ≤ nx) :
    mm_Wp 195 (mm_blk 195 5) [zR (40, 0, 0), zI x1, zI x2, zI x3] [] (mm_z hi dh nx ns) Q =
    (if x3 < 36 then mm_Cl 175 [zI x1, zI x2] (mm_z hi dh nx ns) (fun r h3 => mm_Wp 195 (bk_195_5.drop 11) [zR (40, 0, 0), zI x1, zI x2, zI x3] (mm_push r [zI 36, zR (43, 0, 0), zR (55, 0, 0)]) h3 Q) else mm_Wp 195 (mm_blk 195 6) [zR (40, 0, 0), zI x1, zI x2, zI x3] [] (mm_z hi dh nx ns) Q) :=
  mm_kb bq_195_5 ((wp_3_3).trans ((wp_1).trans ((wp_49).trans (mm_ic ((wp_5_0).trans ((wp_62 (by decide) (mm_o40 hy) (mm_r40_16 hy)).trans ((wp_5_0).trans ((wp_62 (by decide) (mm_o40 hy) (mm_r40_4 hy)).trans ((wp_1).trans ((wp_3_1).trans ((wp_3_2).trans ((wp_s2 mm_n_175 (mm_leq mm_m_175 (mm_lb rfl)) (mm_lb rfl)).trans rfl)))))))) (rfl)))))
theorem r_195_5_11 (x1 : Int) (x2 : Int) (x3 : Int) (y0 : Int) (y1 : Int) {hi : mm_Id → Int → Int} {dh : Int → Int} {nx ns : Int} {Q : mm_V → mm_H → Prop} (hy : 10581 ≤ nx) :
    mm_Wp 195 (bk_195_5.drop 11) [zR (40, 0, 0), zI x1, zI x2, zI x3] [zI y0, zI y1, zR (43, 0, 0), zR (55, 0, 0)] (mm_z hi dh nx ns) Q =
    ((0 ≤ (mm_w ((mm_w (y1 * y0)) + x3)) ∧ (mm_w ((mm_w (y1 * y0)) + x3)) < 37584) ∧ ((0 ≤ (hi (43, 0, 0) (mm_w ((mm_w (y1 * y0)) + x3))) ∧ (hi (43, 0, 0) (mm_w ((mm_w (y1 * y0)) + x3))) < 3001) ∧ mm_Wp 195 (mm_blk 195 5) [zR (40, 0, 0), zI x1, zI x2, zI (mm_w (x3 + 1))] [] (mm_z (mm_up hi (55, 0, 0) (hi (43, 0, 0) (mm_w ((mm_w (y1 * y0)) + x3))) 1) dh nx ns) Q)) :=
  (wp_12).trans ((wp_3_3).trans ((wp_10).trans ((wp_70 (mm_q43 hy)).trans (mm_ae ((wp_1).trans ((wp_75z (by decide) (mm_q55 hy)).trans (mm_ae ((wp_9 (l2 := [zR (40, 0, 0), zI x1, zI x2, zI (mm_w (x3 + 1))]) rfl rfl).trans ((wp_56).trans (rfl))))))))))
/-- PoolHouseModel.newBlock()I -/
theorem bq_196_0 : mm_blk 196 0 = bk_196_0 := by decide +kernel
theorem bq_196_1 : mm_blk 196 1 = bk_196_1 := by decide +kernel
theorem bq_196_2 : mm_blk 196 2 = bk_196_2 := by decide +kernel
theorem bq_196_3 : mm_blk 196 3 = bk_196_3 := by decide +kernel
theorem bq_196_4 : mm_blk 196 4 = bk_196_4 := by decide +kernel
theorem bq_196_5 : mm_blk 196 5 = bk_196_5 := by decide +kernel
theorem bq_196_6 : mm_blk 196 6 = bk_196_6 := by decide +kernel
theorem r_196_e  {hi : mm_Id → Int → Int} {dh : Int → Int} {nx ns : Int} {Q : mm_V → mm_H → Prop} (hy : 10581 ≤ nx) :
    mm_Cl 196 [zR (40, 0, 0)] (mm_z hi dh nx ns) Q =
    mm_Wp 196 (mm_blk 196 1) [zR (40, 0, 0), zI (mm_w ((hi (40, 0, 0) 18) + 1)), zU] [] (mm_z hi dh nx ns) Q :=
  mm_ce (l2 := [zR (40, 0, 0), zU, zU]) rfl (mm_kb bq_196_0 ((wp_5_0).trans ((wp_60 (by decide) (mm_o40 hy)).trans ((wp_1).trans ((wp_10).trans ((wp_6 (l2 := [zR (40, 0, 0), zI (mm_w ((hi (40, 0, 0) 18) + 1)), zU]) rfl).trans ((wp_0).trans (rfl))))))))
theorem r_196_1 (x1 : Int) (vx2 : mm_V) {hi : mm_Id → Int → Int} {dh : Int → Int} {nx ns : Int} {Q : mm_V → mm_H → Prop} (hy : 10581 ≤ nx) :
    mm_Wp 196 (mm_blk 196 1) [zR (40, 0, 0), zI x1, vx2] [] (mm_z hi dh nx ns) Q =
    (if 3000 < x1 then mm_Wp 196 (mm_blk 196 2) [zR (40, 0, 0), zI x1, vx2] [] (mm_z hi dh nx ns) Q else ((0 ≤ x1 ∧ x1 < 3001) ∧ (if (hi (55, 0, 0) x1) = 0 then mm_Wp 196 (mm_blk 196 2) [zR (40, 0, 0), zI x1, vx2] [] (mm_z hi dh nx ns) Q else mm_Wp 196 (mm_blk 196 1) [zR (40, 0, 0), zI (mm_w (x1 + 1)), vx2] [] (mm_z hi dh nx ns) Q))) :=
  mm_kb bq_196_1 ((wp_3_1).trans ((wp_1).trans ((wp_50).trans (mm_ic (rfl) ((wp_5_0).trans ((wp_62 (by decide) (mm_o40 hy) (mm_r40_16 hy)).trans ((wp_3_1).trans ((wp_71z (mm_q55 hy)).trans (mm_ae ((wp_40).trans (mm_ic (rfl) ((wp_9 (l2 := [zR (40, 0, 0), zI (mm_w (x1 + 1)), vx2]) rfl rfl).trans ((wp_56).trans (rfl))))))))))))))
theorem r_196_2 (x1 : Int) (vx2 : mm_V) {hi : mm_Id → Int → Int} {dh : Int → Int} {nx ns : Int} {Q : mm_V → mm_H → Prop} (hy : 10581 ≤ nx) :
    mm_Wp 196 (mm_blk 196 2) [zR (40, 0, 0), zI x1, vx2] [] (mm_z hi dh nx ns) Q =
    (if 3000 < x1 then mm_Cl 195 [zR (40, 0, 0)] (mm_z hi dh nx ns) (fun r h3 => mm_Wp 196 (bk_196_2.drop 5) [zR (40, 0, 0), zI x1, vx2] (mm_push r []) h3 Q) else mm_Wp 196 (mm_blk 196 4) [zR (40, 0, 0), zI x1, vx2] [] (mm_z hi dh nx ns) Q) :=
  mm_kb bq_196_2 ((wp_3_1).trans ((wp_1).trans ((wp_51).trans (mm_ic ((wp_5_0).trans ((wp_v1 mm_n_195 (mm_leq mm_m_195 (mm_lb rfl)) (mm_lb rfl) (mm_o40 hy)).trans rfl)) (rfl)))))
theorem r_196_4 (x1 : Int) (vx2 : mm_V) {hi : mm_Id → Int → Int} {dh : Int → Int} {nx ns : Int} {Q : mm_V → mm_H → Prop} (hy : 10581 ≤ nx) :
    mm_Wp 196 (mm_blk 196 4) [zR (40, 0, 0), zI x1, vx2] [] (mm_z hi dh nx ns) Q =
    ((0 ≤ x1 ∧ x1 < 3001) ∧ mm_Wp 196 (mm_blk 196 5) [zR (40, 0, 0), zI x1, zI 0] [] (mm_z (mm_up (mm_up hi (55, 0, 0) x1 1) (40, 0, 0) 18 x1) dh nx ns) Q) :=
  mm_kb bq_196_4 ((wp_5_0).trans ((wp_62 (by decide) (mm_o40 hy) (mm_r40_16 hy)).trans ((wp_3_1).trans ((wp_1).trans ((wp_75z (by decide) (mm_q55 hy)).trans (mm_ae ((wp_5_0).trans ((wp_3_1).trans ((wp_63 (mm_o40 hy)).trans ((wp_1).trans ((wp_6 (l2 := [zR (40, 0, 0), zI x1, zI 0]) rfl).trans ((wp_0).trans (rfl)))))))))))))
theorem r_196_2_5 (vx1 : mm_V) (vx2 : mm_V) {hi : mm_Id → Int → Int} {dh : Int → Int} {nx ns : Int} {Q : mm_V → mm_H → Prop} (hy : 10581 ≤ nx) :
    mm_Wp 196 (bk_196_2.drop 5) [zR (40, 0, 0), vx1, vx2] [] (mm_z hi dh nx ns) Q =
    mm_Wp 196 (mm_blk 196 3) [zR (40, 0, 0), zI 1, vx2] [] (mm_z hi dh nx ns) Q :=
  (wp_1).trans ((wp_6 (l2 := [zR (40, 0, 0), zI 1, vx2]) rfl).trans ((wp_0).trans (rfl)))
theorem r_196_5 (x1 : Int) (x2 : Int) {hi : mm_Id → Int → Int} {dh : Int → Int} {nx ns : Int} {Q : mm_V → mm_H → Prop} (hy : 10581 ≤ nx) :
    mm_Wp 196 (mm_blk 196 5) [zR (40, 0, 0), zI x1, zI x2] [] (mm_z hi dh nx ns) Q =
    (if x2 < 60 then ((0 ≤ (mm_w ((mm_w (60 * x1)) + x2)) ∧ (mm_w ((mm_w (60 * x1)) + x2)) < 180060) ∧ mm_Wp 196 (mm_blk 196 5) [zR (40, 0, 0), zI x1, zI (mm_w (x2 + 1))] [] (mm_z (mm_up hi (54, 0, 0) (mm_w ((mm_w (60 * x1)) + x2)) (mm_b 0)) dh nx ns) Q) else Q (zI x1) (mm_z hi dh nx ns)) :=
  mm_kb bq_196_5 ((wp_3_2).trans ((wp_1).trans ((wp_49).trans (mm_ic ((wp_5_0).trans ((wp_62 (by decide) (mm_o40 hy) (mm_r40_15 hy)).trans ((wp_1).trans ((wp_3_1).trans ((wp_12).trans ((wp_3_2).trans ((wp_10).trans ((wp_1).trans ((wp_75 (mm_q54 hy)).trans (mm_ae ((wp_9 (l2 := [zR (40, 0, 0), zI x1, zI (mm_w (x2 + 1))]) rfl rfl).trans ((wp_56).trans (rfl))))))))))))) (mm_kb bq_196_6 ((wp_3_1).trans (wp_90)))))))
theorem r_196_3 (x1 : Int) (vx2 : mm_V) {hi : mm_Id → Int → Int} {dh : Int → Int} {nx ns : Int} {Q : mm_V → mm_H → Prop} (hy : 10581 ≤ nx) :
    mm_Wp 196 (mm_blk 196 3) [zR (40, 0, 0), zI x1, vx2] [] (mm_z hi dh nx ns) Q =
    ((0 ≤ x1 ∧ x1 < 3001) ∧ (if (hi (55, 0, 0) x1) = 0 then mm_Wp 196 (mm_blk 196 4) [zR (40, 0, 0), zI x1, vx2] [] (mm_z hi dh nx ns) Q else mm_Wp 196 (mm_blk 196 3) [zR (40, 0, 0), zI (mm_w (x1 + 1)), vx2] [] (mm_z hi dh nx ns) Q)) :=
  mm_kb bq_196_3 ((wp_5_0).trans ((wp_62 (by decide) (mm_o40 hy) (mm_r40_16 hy)).trans ((wp_3_1).trans ((wp_71z (mm_q55 hy)).trans (mm_ae ((wp_40).trans (mm_ic (rfl) ((wp_9 (l2 := [zR (40, 0, 0), zI (mm_w (x1 + 1)), vx2]) rfl rfl).trans ((wp_56).trans (rfl))))))))))
/-- PoolHouseModel.see(I)I -/
theorem bq_197_0 : mm_blk 197 0 = bk_197_0 := by decide +kernel
theorem bq_197_1 : mm_blk 197 1 = bk_197_1 := by decide +kernel
theorem bq_197_2 : mm_blk 197 2 = bk_197_2 := by decide +kernel
theorem bq_197_3 : mm_blk 197 3 = bk_197_3 := by decide +kernel
theorem bq_197_4 : mm_blk 197 4 = bk_197_4 := by decide +kernel
theorem bq_197_5 : mm_blk 197 5 = bk_197_5 := by decide +kernel
theorem bq_197_6 : mm_blk 197 6 = bk_197_6 := by decide +kernel
theorem bq_197_7 : mm_blk 197 7 = bk_197_7 := by decide +kernel
theorem r_197_e (x1 : Int) {hi : mm_Id → Int → Int} {dh : Int → Int} {nx ns : Int} {Q : mm_V → mm_H → Prop} (hy : 10581 ≤ nx) :
    mm_Cl 197 [zR (40, 0, 0), zI x1] (mm_z hi dh nx ns) Q =
    mm_Cl 175 [zI x1, zI 1] (mm_z hi dh nx ns) (fun r h3 => mm_Wp 197 (bk_197_0.drop 5) [zR (40, 0, 0), zI x1, zI 0, zU, zU, zU] (mm_push r []) h3 Q) :=
  mm_ce (l2 := [zR (40, 0, 0), zI x1, zU, zU, zU, zU]) rfl (mm_kb bq_197_0 ((wp_1).trans ((wp_6 (l2 := [zR (40, 0, 0), zI x1, zI 0, zU, zU, zU]) rfl).trans ((wp_3_1).trans ((wp_1).trans ((wp_s2 mm_n_175 (mm_leq mm_m_175 (mm_lb rfl)) (mm_lb rfl)).trans rfl))))))
theorem r_197_0_5 (x1 : Int) (x2 : Int) (vx3 : mm_V) (vx4 : mm_V) (vx5 : mm_V) (y0 : Int) {hi : mm_Id → Int → Int} {dh : Int → Int} {nx ns : Int} {Q : mm_V → mm_H → Prop} (hy : 10581 ≤ nx) :
    mm_Wp 197 (bk_197_0.drop 5) [zR (40, 0, 0), zI x1, zI x2, vx3, vx4, vx5] [zI y0] (mm_z hi dh nx ns) Q =
    mm_Wp 197 (mm_blk 197 1) [zR (40, 0, 0), zI x1, zI x2, zI y0, vx4, vx5] [] (mm_z hi dh nx ns) Q :=
  (wp_6 (l2 := [zR (40, 0, 0), zI x1, zI x2, zI y0, vx4, vx5]) rfl).trans ((wp_0).trans (rfl))
theorem r_197_1 (x1 : Int) (x2 : Int) (x3 : Int) (vx4 : mm_V) (vx5 : mm_V) {hi : mm_Id → Int → Int} {dh : Int → Int} {nx ns : Int} {Q : mm_V → mm_H → Prop} (hy : 10581 ≤ nx) :
    mm_Wp 197 (mm_blk 197 1) [zR (40, 0, 0), zI x1, zI x2, zI x3, vx4, vx5] [] (mm_z hi dh nx ns) Q =
    mm_Cl 175 [zI x1, zI 36] (mm_z hi dh nx ns) (fun r h3 => mm_Wp 197 (bk_197_1.drop 4) [zR (40, 0, 0), zI x1, zI x2, zI x3, vx4, vx5] (mm_push r [zI x3]) h3 Q) :=
  mm_kb bq_197_1 ((wp_3_3).trans ((wp_3_1).trans ((wp_1).trans ((wp_s2 mm_n_175 (mm_leq mm_m_175 (mm_lb rfl)) (mm_lb rfl)).trans rfl))))
theorem r_197_1_4 (x1 : Int) (x2 : Int) (x3 : Int) (vx4 : mm_V) (vx5 : mm_V) (y0 : Int) (y1 : Int) {hi : mm_Id → Int → Int} {dh : Int → Int} {nx ns : Int} {Q : mm_V → mm_H → Prop} (hy : 10581 ≤ nx) :
    mm_Wp 197 (bk_197_1.drop 4) [zR (40, 0, 0), zI x1, zI x2, zI x3, vx4, vx5] [zI y0, zI y1] (mm_z hi dh nx ns) Q =
    (if y0 < y1 then Q (zI x2) (mm_z hi dh nx ns) else ((0 ≤ x3 ∧ x3 < 1044) ∧ (if (hi (41, 0, 0) x3) = 1 then mm_Wp 197 (mm_blk 197 3) [zR (40, 0, 0), zI x1, zI x2, zI x3, zI 0, vx5] [] (mm_z hi dh nx ns) Q else mm_Wp 197 (mm_blk 197 6) [zR (40, 0, 0), zI x1, zI x2, zI x3, vx4, vx5] [] (mm_z hi dh nx ns) Q))) :=
  (wp_50).trans (mm_ic (mm_kb bq_197_7 ((wp_3_2).trans (wp_90))) ((wp_5_0).trans ((wp_62 (by decide) (mm_o40 hy) (mm_r40_2 hy)).trans ((wp_3_3).trans ((wp_70 (mm_q41 hy)).trans (mm_ae ((wp_1).trans ((wp_46).trans (mm_ic (mm_kb bq_197_2 ((wp_1).trans ((wp_6 (l2 := [zR (40, 0, 0), zI x1, zI x2, zI x3, zI 0, vx5]) rfl).trans ((wp_0).trans (rfl))))) ((wp_56).trans (rfl)))))))))))
theorem r_197_3 (x1 : Int) (x2 : Int) (x3 : Int) (x4 : Int) (vx5 : mm_V) {hi : mm_Id → Int → Int} {dh : Int → Int} {nx ns : Int} {Q : mm_V → mm_H → Prop} (hy : 10581 ≤ nx) :
    mm_Wp 197 (mm_blk 197 3) [zR (40, 0, 0), zI x1, zI x2, zI x3, zI x4, vx5] [] (mm_z hi dh nx ns) Q =
    (if x4 < 36 then ((0 ≤ (mm_w ((mm_w (36 * x3)) + x4)) ∧ (mm_w ((mm_w (36 * x3)) + x4)) < 37584) ∧ (if (hi (43, 0, 0) (mm_w ((mm_w (36 * x3)) + x4))) = 0 then mm_Wp 197 (mm_blk 197 5) [zR (40, 0, 0), zI x1, zI x2, zI x3, zI x4, zI (hi (43, 0, 0) (mm_w ((mm_w (36 * x3)) + x4)))] [] (mm_z hi dh nx ns) Q else ((0 ≤ (hi (43, 0, 0) (mm_w ((mm_w (36 * x3)) + x4))) ∧ (hi (43, 0, 0) (mm_w ((mm_w (36 * x3)) + x4))) < 3001) ∧ (if (hi (56, 0, 0) (hi (43, 0, 0) (mm_w ((mm_w (36 * x3)) + x4)))) = 0 then ((0 ≤ (hi (43, 0, 0) (mm_w ((mm_w (36 * x3)) + x4))) ∧ (hi (43, 0, 0) (mm_w ((mm_w (36 * x3)) + x4))) < 3001) ∧ mm_Wp 197 (mm_blk 197 5) [zR (40, 0, 0), zI x1, zI (mm_w (x2 + 1)), zI x3, zI x4, zI (hi (43, 0, 0) (mm_w ((mm_w (36 * x3)) + x4)))] [] (mm_z (mm_up hi (56, 0, 0) (hi (43, 0, 0) (mm_w ((mm_w (36 * x3)) + x4))) 1) dh nx ns) Q) else mm_Wp 197 (mm_blk 197 5) [zR (40, 0, 0), zI x1, zI x2, zI x3, zI x4, zI (hi (43, 0, 0) (mm_w ((mm_w (36 * x3)) + x4)))] [] (mm_z hi dh nx ns) Q)))) else mm_Wp 197 (mm_blk 197 6) [zR (40, 0, 0), zI x1, zI x2, zI x3, zI x4, vx5] [] (mm_z hi dh nx ns) Q) :=
  mm_kb bq_197_3 ((wp_3_4).trans ((wp_1).trans ((wp_49).trans (mm_ic ((wp_5_0).trans ((wp_62 (by decide) (mm_o40 hy) (mm_r40_4 hy)).trans ((wp_1).trans ((wp_3_3).trans ((wp_12).trans ((wp_3_4).trans ((wp_10).trans ((wp_70 (mm_q43 hy)).trans (mm_ae ((wp_6 (l2 := [zR (40, 0, 0), zI x1, zI x2, zI x3, zI x4, zI (hi (43, 0, 0) (mm_w ((mm_w (36 * x3)) + x4)))]) rfl).trans ((wp_3_5).trans ((wp_40).trans (mm_ic (rfl) ((wp_5_0).trans ((wp_62 (by decide) (mm_o40 hy) (mm_r40_17 hy)).trans ((wp_3_5).trans ((wp_71z (mm_q56 hy)).trans (mm_ae ((wp_40).trans (mm_ic (mm_kb bq_197_4 ((wp_5_0).trans ((wp_62 (by decide) (mm_o40 hy) (mm_r40_17 hy)).trans ((wp_3_5).trans ((wp_1).trans ((wp_75z (by decide) (mm_q56 hy)).trans (mm_ae ((wp_9 (l2 := [zR (40, 0, 0), zI x1, zI (mm_w (x2 + 1)), zI x3, zI x4, zI (hi (43, 0, 0) (mm_w ((mm_w (36 * x3)) + x4)))]) rfl rfl).trans ((wp_0).trans (rfl)))))))))) ((wp_56).trans (rfl)))))))))))))))))))))) (rfl)))))
theorem r_197_6 (x1 : Int) (x2 : Int) (x3 : Int) (vx4 : mm_V) (vx5 : mm_V) {hi : mm_Id → Int → Int} {dh : Int → Int} {nx ns : Int} {Q : mm_V → mm_H → Prop} (hy : 10581 ≤ nx) :
    mm_Wp 197 (mm_blk 197 6) [zR (40, 0, 0), zI x1, zI x2, zI x3, vx4, vx5] [] (mm_z hi dh nx ns) Q =
    mm_Wp 197 (mm_blk 197 1) [zR (40, 0, 0), zI x1, zI x2, zI (mm_w (x3 + 1)), vx4, vx5] [] (mm_z hi dh nx ns) Q :=
  mm_kb bq_197_6 ((wp_9 (l2 := [zR (40, 0, 0), zI x1, zI x2, zI (mm_w (x3 + 1)), vx4, vx5]) rfl rfl).trans ((wp_56).trans (rfl)))
theorem r_197_5 (x1 : Int) (x2 : Int) (x3 : Int) (x4 : Int) (vx5 : mm_V) {hi : mm_Id → Int → Int} {dh : Int → Int} {nx ns : Int} {Q : mm_V → mm_H → Prop} (hy : 10581 ≤ nx) :
    mm_Wp 197 (mm_blk 197 5) [zR (40, 0, 0), zI x1, zI x2, zI x3, zI x4, vx5] [] (mm_z hi dh nx ns) Q =
    mm_Wp 197 (mm_blk 197 3) [zR (40, 0, 0), zI x1, zI x2, zI x3, zI (mm_w (x4 + 1)), vx5] [] (mm_z hi dh nx ns) Q :=
  mm_kb bq_197_5 ((wp_9 (l2 := [zR (40, 0, 0), zI x1, zI x2, zI x3, zI (mm_w (x4 + 1)), vx5]) rfl rfl).trans ((wp_56).trans (rfl)))
/-- PoolHouseModel.unsee()V -/
theorem bq_198_0 : mm_blk 198 0 = bk_198_0 := by decide +kernel
theorem bq_198_1 : mm_blk 198 1 = bk_198_1 := by decide +kernel
theorem bq_198_2 : mm_blk 198 2 = bk_198_2 := by decide +kernel
theorem r_198_e  {hi : mm_Id → Int → Int} {dh : Int → Int} {nx ns : Int} {Q : mm_V → mm_H → Prop} (hy : 10581 ≤ nx) :
    mm_Cl 198 [zR (40, 0, 0)] (mm_z hi dh nx ns) Q =
    mm_Wp 198 (mm_blk 198 1) [zR (40, 0, 0), zI 1] [] (mm_z hi dh nx ns) Q :=
  mm_ce (l2 := [zR (40, 0, 0), zU]) rfl (mm_kb bq_198_0 ((wp_1).trans ((wp_6 (l2 := [zR (40, 0, 0), zI 1]) rfl).trans ((wp_0).trans (rfl)))))
theorem r_198_1 (x1 : Int) {hi : mm_Id → Int → Int} {dh : Int → Int} {nx ns : Int} {Q : mm_V → mm_H → Prop} (hy : 10581 ≤ nx) :
    mm_Wp 198 (mm_blk 198 1) [zR (40, 0, 0), zI x1] [] (mm_z hi dh nx ns) Q =
    (if 3000 < x1 then Q zU (mm_z hi dh nx ns) else ((0 ≤ x1 ∧ x1 < 3001) ∧ mm_Wp 198 (mm_blk 198 1) [zR (40, 0, 0), zI (mm_w (x1 + 1))] [] (mm_z (mm_up hi (56, 0, 0) x1 0) dh nx ns) Q)) :=
  mm_kb bq_198_1 ((wp_3_1).trans ((wp_1).trans ((wp_50).trans (mm_ic (mm_kb bq_198_2 (wp_93)) ((wp_5_0).trans ((wp_62 (by decide) (mm_o40 hy) (mm_r40_17 hy)).trans ((wp_3_1).trans ((wp_1).trans ((wp_75z (by decide) (mm_q56 hy)).trans (mm_ae ((wp_9 (l2 := [zR (40, 0, 0), zI (mm_w (x1 + 1))]) rfl rfl).trans ((wp_56).trans (rfl)))))))))))))
/-- PoolHouseModel.heldBut(I)I -/
theorem bq_199_0 : mm_blk 199 0 = bk_199_0 := by decide +kernel
theorem bq_199_1 : mm_blk 199 1 = bk_199_1 := by decide +kernel
theorem bq_199_2 : mm_blk 199 2 = bk_199_2 := by decide +kernel
theorem bq_199_3 : mm_blk 199 3 = bk_199_3 := by decide +kernel
theorem bq_199_4 : mm_blk 199 4 = bk_199_4 := by decide +kernel
theorem r_199_e (x1 : Int) {hi : mm_Id → Int → Int} {dh : Int → Int} {nx ns : Int} {Q : mm_V → mm_H → Prop} (hy : 10581 ≤ nx) :
    mm_Cl 199 [zR (40, 0, 0), zI x1] (mm_z hi dh nx ns) Q =
    mm_Cl 198 [zR (40, 0, 0)] (mm_z hi dh nx ns) (fun r h3 => mm_Wp 199 (bk_199_0.drop 2) [zR (40, 0, 0), zI x1, zU, zU] (mm_push r []) h3 Q) :=
  mm_ce (l2 := [zR (40, 0, 0), zI x1, zU, zU]) rfl (mm_kb bq_199_0 ((wp_5_0).trans ((wp_v1 mm_n_198 (mm_leq mm_m_198 (mm_lb rfl)) (mm_lb rfl) (mm_o40 hy)).trans rfl)))
theorem r_199_0_2 (x1 : Int) (vx2 : mm_V) (vx3 : mm_V) {hi : mm_Id → Int → Int} {dh : Int → Int} {nx ns : Int} {Q : mm_V → mm_H → Prop} (hy : 10581 ≤ nx) :
    mm_Wp 199 (bk_199_0.drop 2) [zR (40, 0, 0), zI x1, vx2, vx3] [] (mm_z hi dh nx ns) Q =
    mm_Wp 199 (mm_blk 199 1) [zR (40, 0, 0), zI x1, zI 0, zI 0] [] (mm_z hi dh nx ns) Q :=
  (wp_1).trans ((wp_6 (l2 := [zR (40, 0, 0), zI x1, zI 0, vx3]) rfl).trans ((wp_1).trans ((wp_6 (l2 := [zR (40, 0, 0), zI x1, zI 0, zI 0]) rfl).trans ((wp_0).trans (rfl)))))
theorem r_199_1 (x1 : Int) (x2 : Int) (x3 : Int) {hi : mm_Id → Int → Int} {dh : Int → Int} {nx ns : Int} {Q : mm_V → mm_H → Prop} (hy : 10581 ≤ nx) :
    mm_Wp 199 (mm_blk 199 1) [zR (40, 0, 0), zI x1, zI x2, zI x3] [] (mm_z hi dh nx ns) Q =
    (if x3 < 13 then ((0 ≤ x3 ∧ x3 < 26) ∧ (if 0 < (hi (57, 0, 0) x3) then (if x3 = x1 then mm_Wp 199 (mm_blk 199 2) [zR (40, 0, 0), zI x1, zI x2, zI x3] [zI x2] (mm_z hi dh nx ns) Q else mm_Cl 197 [zR (40, 0, 0), zI x3] (mm_z hi dh nx ns) (fun r h3 => mm_Wp 199 (bk_199_1.drop 15) [zR (40, 0, 0), zI x1, zI x2, zI x3] (mm_push r [zI x2]) h3 Q)) else mm_Wp 199 (mm_blk 199 2) [zR (40, 0, 0), zI x1, zI x2, zI x3] [zI x2] (mm_z hi dh nx ns) Q)) else Q (zI x2) (mm_z hi dh nx ns)) :=
  mm_kb bq_199_1 ((wp_3_3).trans ((wp_1).trans ((wp_49).trans (mm_ic ((wp_3_2).trans ((wp_5_0).trans ((wp_62 (by decide) (mm_o40 hy) (mm_r40_19 hy)).trans ((wp_3_3).trans ((wp_70 (mm_q57 hy)).trans (mm_ae ((wp_45).trans (mm_ic ((wp_3_3).trans ((wp_3_1).trans ((wp_46).trans (mm_ic (rfl) ((wp_5_0).trans ((wp_3_3).trans ((wp_v2 mm_n_197 (mm_leq mm_m_197 (mm_lb rfl)) (mm_lb rfl) (mm_o40 hy)).trans rfl))))))) (rfl))))))))) (mm_kb bq_199_4 ((wp_3_2).trans (wp_90)))))))
theorem r_199_2 (x1 : Int) (vx2 : mm_V) (x3 : Int) (y0 : Int) {hi : mm_Id → Int → Int} {dh : Int → Int} {nx ns : Int} {Q : mm_V → mm_H → Prop} (hy : 10581 ≤ nx) :
    mm_Wp 199 (mm_blk 199 2) [zR (40, 0, 0), zI x1, vx2, zI x3] [zI y0] (mm_z hi dh nx ns) Q =
    mm_Wp 199 (mm_blk 199 3) [zR (40, 0, 0), zI x1, vx2, zI x3] [zI 0, zI y0] (mm_z hi dh nx ns) Q :=
  mm_kb bq_199_2 ((wp_1).trans ((wp_0).trans (rfl)))
theorem r_199_1_15 (x1 : Int) (vx2 : mm_V) (x3 : Int) (y0 : Int) (y1 : Int) {hi : mm_Id → Int → Int} {dh : Int → Int} {nx ns : Int} {Q : mm_V → mm_H → Prop} (hy : 10581 ≤ nx) :
    mm_Wp 199 (bk_199_1.drop 15) [zR (40, 0, 0), zI x1, vx2, zI x3] [zI y0, zI y1] (mm_z hi dh nx ns) Q =
    mm_Wp 199 (mm_blk 199 3) [zR (40, 0, 0), zI x1, vx2, zI x3] [zI y0, zI y1] (mm_z hi dh nx ns) Q :=
  (wp_56).trans (rfl)
theorem r_199_3 (x1 : Int) (vx2 : mm_V) (x3 : Int) (y0 : Int) (y1 : Int) {hi : mm_Id → Int → Int} {dh : Int → Int} {nx ns : Int} {Q : mm_V → mm_H → Prop} (hy : 10581 ≤ nx) :
    mm_Wp 199 (mm_blk 199 3) [zR (40, 0, 0), zI x1, vx2, zI x3] [zI y0, zI y1] (mm_z hi dh nx ns) Q =
    mm_Wp 199 (mm_blk 199 1) [zR (40, 0, 0), zI x1, zI (mm_w (y1 + y0)), zI (mm_w (x3 + 1))] [] (mm_z hi dh nx ns) Q :=
  mm_kb bq_199_3 ((wp_10).trans ((wp_6 (l2 := [zR (40, 0, 0), zI x1, zI (mm_w (y1 + y0)), zI x3]) rfl).trans ((wp_9 (l2 := [zR (40, 0, 0), zI x1, zI (mm_w (y1 + y0)), zI (mm_w (x3 + 1))]) rfl rfl).trans ((wp_56).trans (rfl)))))
/-- PoolHouseModel.heldBy(I)I -/
theorem bq_200_0 : mm_blk 200 0 = bk_200_0 := by decide +kernel
theorem r_200_e (x1 : Int) {hi : mm_Id → Int → Int} {dh : Int → Int} {nx ns : Int} {Q : mm_V → mm_H → Prop} (hy : 10581 ≤ nx) :
    mm_Cl 200 [zR (40, 0, 0), zI x1] (mm_z hi dh nx ns) Q =
    mm_Cl 198 [zR (40, 0, 0)] (mm_z hi dh nx ns) (fun r h3 => mm_Wp 200 (bk_200_0.drop 2) [zR (40, 0, 0), zI x1] (mm_push r []) h3 Q) :=
  mm_ce (l2 := [zR (40, 0, 0), zI x1]) rfl (mm_kb bq_200_0 ((wp_5_0).trans ((wp_v1 mm_n_198 (mm_leq mm_m_198 (mm_lb rfl)) (mm_lb rfl) (mm_o40 hy)).trans rfl)))
theorem r_200_0_2 (x1 : Int) {hi : mm_Id → Int → Int} {dh : Int → Int} {nx ns : Int} {Q : mm_V → mm_H → Prop} (hy : 10581 ≤ nx) :
    mm_Wp 200 (bk_200_0.drop 2) [zR (40, 0, 0), zI x1] [] (mm_z hi dh nx ns) Q =
    mm_Cl 197 [zR (40, 0, 0), zI x1] (mm_z hi dh nx ns) (fun r h3 => mm_Wp 200 (bk_200_0.drop 5) [zR (40, 0, 0), zI x1] (mm_push r []) h3 Q) :=
  (wp_5_0).trans ((wp_3_1).trans ((wp_v2 mm_n_197 (mm_leq mm_m_197 (mm_lb rfl)) (mm_lb rfl) (mm_o40 hy)).trans rfl))
theorem r_200_0_5 (vx0 : mm_V) (vx1 : mm_V) (y0 : Int) {hi : mm_Id → Int → Int} {dh : Int → Int} {nx ns : Int} {Q : mm_V → mm_H → Prop} (hy : 10581 ≤ nx) :
    mm_Wp 200 (bk_200_0.drop 5) [vx0, vx1] [zI y0] (mm_z hi dh nx ns) Q =
    Q (zI y0) (mm_z hi dh nx ns) :=
  wp_90
/-- PoolHouseModel.hasRoom(I)Z -/
theorem bq_201_0 : mm_blk 201 0 = bk_201_0 := by decide +kernel
theorem bq_201_1 : mm_blk 201 1 = bk_201_1 := by decide +kernel
theorem bq_201_2 : mm_blk 201 2 = bk_201_2 := by decide +kernel
theorem r_201_e (x1 : Int) {hi : mm_Id → Int → Int} {dh : Int → Int} {nx ns : Int} {Q : mm_V → mm_H → Prop} (hy : 10581 ≤ nx) :
    mm_Cl 201 [zR (40, 0, 0), zI x1] (mm_z hi dh nx ns) Q =
    mm_Cl 199 [zR (40, 0, 0), zI (-1)] (mm_z hi dh nx ns) (fun r h3 => mm_Wp 201 (bk_201_0.drop 3) [zR (40, 0, 0), zI x1] (mm_push r []) h3 Q) :=
  mm_ce (l2 := [zR (40, 0, 0), zI x1]) rfl (mm_kb bq_201_0 ((wp_5_0).trans ((wp_1).trans ((wp_v2 mm_n_199 (mm_leq mm_m_199 (mm_lb rfl)) (mm_lb rfl) (mm_o40 hy)).trans rfl))))
theorem r_201_0_3 (x1 : Int) (y0 : Int) {hi : mm_Id → Int → Int} {dh : Int → Int} {nx ns : Int} {Q : mm_V → mm_H → Prop} (hy : 10581 ≤ nx) :
    mm_Wp 201 (bk_201_0.drop 3) [zR (40, 0, 0), zI x1] [zI y0] (mm_z hi dh nx ns) Q =
    (if 400 < y0 then mm_Wp 201 (mm_blk 201 1) [zR (40, 0, 0), zI x1] [] (mm_z hi dh nx ns) Q else mm_Cl 200 [zR (40, 0, 0), zI x1] (mm_z hi dh nx ns) (fun r h3 => mm_Wp 201 (bk_201_0.drop 8) [zR (40, 0, 0), zI x1] (mm_push r []) h3 Q)) :=
  (wp_1).trans ((wp_50).trans (mm_ic (rfl) ((wp_5_0).trans ((wp_3_1).trans ((wp_v2 mm_n_200 (mm_leq mm_m_200 (mm_lb rfl)) (mm_lb rfl) (mm_o40 hy)).trans rfl)))))
theorem r_201_1 (vx0 : mm_V) (vx1 : mm_V) {hi : mm_Id → Int → Int} {dh : Int → Int} {nx ns : Int} {Q : mm_V → mm_H → Prop} (hy : 10581 ≤ nx) :
    mm_Wp 201 (mm_blk 201 1) [vx0, vx1] [] (mm_z hi dh nx ns) Q =
    mm_Wp 201 (mm_blk 201 2) [vx0, vx1] [zI 0] (mm_z hi dh nx ns) Q :=
  mm_kb bq_201_1 ((wp_1).trans ((wp_0).trans (rfl)))
theorem r_201_0_8 (x1 : Int) (y0 : Int) {hi : mm_Id → Int → Int} {dh : Int → Int} {nx ns : Int} {Q : mm_V → mm_H → Prop} (hy : 10581 ≤ nx) :
    mm_Wp 201 (bk_201_0.drop 8) [zR (40, 0, 0), zI x1] [zI y0] (mm_z hi dh nx ns) Q =
    ((0 ≤ x1 ∧ x1 < 26) ∧ (if (hi (59, 0, 0) x1) < y0 then mm_Wp 201 (mm_blk 201 1) [zR (40, 0, 0), zI x1] [] (mm_z hi dh nx ns) Q else mm_Wp 201 (mm_blk 201 2) [zR (40, 0, 0), zI x1] [zI 1] (mm_z hi dh nx ns) Q)) :=
  (wp_5_0).trans ((wp_62 (by decide) (mm_o40 hy) (mm_r40_21 hy)).trans ((wp_3_1).trans ((wp_70 (mm_q59 hy)).trans (mm_ae ((wp_50).trans (mm_ic (rfl) ((wp_1).trans ((wp_56).trans (rfl)))))))))
theorem r_201_2 (vx0 : mm_V) (vx1 : mm_V) (y0 : Int) {hi : mm_Id → Int → Int} {dh : Int → Int} {nx ns : Int} {Q : mm_V → mm_H → Prop} (hy : 10581 ≤ nx) :
    mm_Wp 201 (mm_blk 201 2) [vx0, vx1] [zI y0] (mm_z hi dh nx ns) Q =
    ((y0 = 0 ∨ y0 = 1) ∧ Q (zI y0) (mm_z hi dh nx ns)) :=
  mm_kb bq_201_2 (wp_94z)
/-- PoolHouseModel.noLimits(I)V -/
theorem bq_202_0 : mm_blk 202 0 = bk_202_0 := by decide +kernel
theorem bq_202_1 : mm_blk 202 1 = bk_202_1 := by decide +kernel
theorem bq_202_2 : mm_blk 202 2 = bk_202_2 := by decide +kernel
theorem r_202_e (x1 : Int) {hi : mm_Id → Int → Int} {dh : Int → Int} {nx ns : Int} {Q : mm_V → mm_H → Prop} (hy : 10581 ≤ nx) :
    mm_Cl 202 [zR (40, 0, 0), zI x1] (mm_z hi dh nx ns) Q =
    mm_Wp 202 (mm_blk 202 1) [zR (40, 0, 0), zI x1, zI 0] [] (mm_z hi dh nx ns) Q :=
  mm_ce (l2 := [zR (40, 0, 0), zI x1, zU]) rfl (mm_kb bq_202_0 ((wp_1).trans ((wp_6 (l2 := [zR (40, 0, 0), zI x1, zI 0]) rfl).trans ((wp_0).trans (rfl)))))
theorem r_202_1 (x1 : Int) (x2 : Int) {hi : mm_Id → Int → Int} {dh : Int → Int} {nx ns : Int} {Q : mm_V → mm_H → Prop} (hy : 10581 ≤ nx) :
    mm_Wp 202 (mm_blk 202 1) [zR (40, 0, 0), zI x1, zI x2] [] (mm_z hi dh nx ns) Q =
    (if x2 < 8 then ((0 ≤ (mm_w ((mm_w (8 * x1)) + x2)) ∧ (mm_w ((mm_w (8 * x1)) + x2)) < 208) ∧ mm_Wp 202 (mm_blk 202 1) [zR (40, 0, 0), zI x1, zI (mm_w (x2 + 1))] [] (mm_z (mm_up hi (61, 0, 0) (mm_w ((mm_w (8 * x1)) + x2)) 400) dh nx ns) Q) else Q zU (mm_z hi dh nx ns)) :=
  mm_kb bq_202_1 ((wp_3_2).trans ((wp_1).trans ((wp_49).trans (mm_ic ((wp_5_0).trans ((wp_62 (by decide) (mm_o40 hy) (mm_r40_23 hy)).trans ((wp_1).trans ((wp_3_1).trans ((wp_12).trans ((wp_3_2).trans ((wp_10).trans ((wp_1).trans ((wp_74 (mm_q61 hy)).trans (mm_ae ((wp_9 (l2 := [zR (40, 0, 0), zI x1, zI (mm_w (x2 + 1))]) rfl rfl).trans ((wp_56).trans (rfl))))))))))))) (mm_kb bq_202_2 (wp_93))))))
/-- PoolHouseModel.may(III)Z -/
theorem bq_203_0 : mm_blk 203 0 = bk_203_0 := by decide +kernel
theorem bq_203_1 : mm_blk 203 1 = bk_203_1 := by decide +kernel
theorem bq_203_2 : mm_blk 203 2 = bk_203_2 := by decide +kernel
theorem bq_203_3 : mm_blk 203 3 = bk_203_3 := by decide +kernel
theorem bq_203_4 : mm_blk 203 4 = bk_203_4 := by decide +kernel
theorem bq_203_5 : mm_blk 203 5 = bk_203_5 := by decide +kernel
theorem r_203_e (x1 : Int) (x2 : Int) (x3 : Int) {hi : mm_Id → Int → Int} {dh : Int → Int} {nx ns : Int} {Q : mm_V → mm_H → Prop} (hy : 10581 ≤ nx) :
    mm_Cl 203 [zR (40, 0, 0), zI x1, zI x2, zI x3] (mm_z hi dh nx ns) Q =
    mm_Cl 175 [zI x1, zI x2] (mm_z hi dh nx ns) (fun r h3 => mm_Wp 203 (bk_203_0.drop 3) [zR (40, 0, 0), zI x1, zI x2, zI x3, zU] (mm_push r []) h3 Q) :=
  mm_ce (l2 := [zR (40, 0, 0), zI x1, zI x2, zI x3, zU]) rfl (mm_kb bq_203_0 ((wp_3_1).trans ((wp_3_2).trans ((wp_s2 mm_n_175 (mm_leq mm_m_175 (mm_lb rfl)) (mm_lb rfl)).trans rfl))))
theorem r_203_0_3 (vx1 : mm_V) (vx2 : mm_V) (x3 : Int) (vx4 : mm_V) (y0 : Int) {hi : mm_Id → Int → Int} {dh : Int → Int} {nx ns : Int} {Q : mm_V → mm_H → Prop} (hy : 10581 ≤ nx) :
    mm_Wp 203 (bk_203_0.drop 3) [zR (40, 0, 0), vx1, vx2, zI x3, vx4] [zI y0] (mm_z hi dh nx ns) Q =
    (if (hi (40, 0, 0) 29) = 0 then mm_Wp 203 (mm_blk 203 3) [zR (40, 0, 0), vx1, vx2, zI x3, zI y0] [] (mm_z hi dh nx ns) Q else ((0 ≤ y0 ∧ y0 < 1044) ∧ (if (hi (40, 0, 0) 29) = (hi (47, 0, 0) y0) then ((0 ≤ y0 ∧ y0 < 1044) ∧ mm_Wp 203 (mm_blk 203 2) [zR (40, 0, 0), vx1, vx2, zI x3, zI y0] [zI (mm_shr (hi (48, 0, 0) y0) 3)] (mm_z hi dh nx ns) Q) else ((0 ≤ y0 ∧ y0 < 1044) ∧ mm_Wp 203 (mm_blk 203 2) [zR (40, 0, 0), vx1, vx2, zI x3, zI y0] [zI (hi (48, 0, 0) y0)] (mm_z hi dh nx ns) Q)))) :=
  (wp_6 (l2 := [zR (40, 0, 0), vx1, vx2, zI x3, zI y0]) rfl).trans ((wp_5_0).trans ((wp_60 (by decide) (mm_o40 hy)).trans ((wp_40).trans (mm_ic (rfl) ((wp_5_0).trans ((wp_60 (by decide) (mm_o40 hy)).trans ((wp_5_0).trans ((wp_62 (by decide) (mm_o40 hy) (mm_r40_8 hy)).trans ((wp_3_4).trans ((wp_70 (mm_q47 hy)).trans (mm_ae ((wp_47).trans (mm_ic ((wp_5_0).trans ((wp_62 (by decide) (mm_o40 hy) (mm_r40_9 hy)).trans ((wp_3_4).trans ((wp_70 (mm_q48 hy)).trans (mm_ae ((wp_1).trans ((wp_17).trans ((wp_56).trans (rfl))))))))) (mm_kb bq_203_1 ((wp_5_0).trans ((wp_62 (by decide) (mm_o40 hy) (mm_r40_9 hy)).trans ((wp_3_4).trans ((wp_70 (mm_q48 hy)).trans (mm_ae ((wp_0).trans (rfl)))))))))))))))))))))
theorem r_203_3 (vx0 : mm_V) (vx1 : mm_V) (vx2 : mm_V) (vx3 : mm_V) (vx4 : mm_V) {hi : mm_Id → Int → Int} {dh : Int → Int} {nx ns : Int} {Q : mm_V → mm_H → Prop} (hy : 10581 ≤ nx) :
    mm_Wp 203 (mm_blk 203 3) [vx0, vx1, vx2, vx3, vx4] [] (mm_z hi dh nx ns) Q =
    mm_Wp 203 (mm_blk 203 5) [vx0, vx1, vx2, vx3, vx4] [zI 1] (mm_z hi dh nx ns) Q :=
  mm_kb bq_203_3 ((wp_1).trans ((wp_56).trans (rfl)))
theorem r_203_2 (vx0 : mm_V) (vx1 : mm_V) (vx2 : mm_V) (x3 : Int) (vx4 : mm_V) (y0 : Int) {hi : mm_Id → Int → Int} {dh : Int → Int} {nx ns : Int} {Q : mm_V → mm_H → Prop} (hy : 10581 ≤ nx) :
    mm_Wp 203 (mm_blk 203 2) [vx0, vx1, vx2, zI x3, vx4] [zI y0] (mm_z hi dh nx ns) Q =
    (if (mm_and y0 x3) = 0 then mm_Wp 203 (mm_blk 203 5) [vx0, vx1, vx2, zI x3, vx4] [zI 0] (mm_z hi dh nx ns) Q else mm_Wp 203 (mm_blk 203 3) [vx0, vx1, vx2, zI x3, vx4] [] (mm_z hi dh nx ns) Q) :=
  mm_kb bq_203_2 ((wp_3_3).trans ((wp_16).trans ((wp_40).trans (mm_ic (mm_kb bq_203_4 ((wp_1).trans ((wp_0).trans (rfl)))) ((wp_0).trans (rfl))))))
theorem r_203_5 (vx0 : mm_V) (vx1 : mm_V) (vx2 : mm_V) (vx3 : mm_V) (vx4 : mm_V) (y0 : Int) {hi : mm_Id → Int → Int} {dh : Int → Int} {nx ns : Int} {Q : mm_V → mm_H → Prop} (hy : 10581 ≤ nx) :
    mm_Wp 203 (mm_blk 203 5) [vx0, vx1, vx2, vx3, vx4] [zI y0] (mm_z hi dh nx ns) Q =
    ((y0 = 0 ∨ y0 = 1) ∧ Q (zI y0) (mm_z hi dh nx ns)) :=
  mm_kb bq_203_5 (wp_94z)
/-- PoolHouseModel.mayChange(II)Z -/
theorem bq_204_0 : mm_blk 204 0 = bk_204_0 := by decide +kernel
theorem bq_204_1 : mm_blk 204 1 = bk_204_1 := by decide +kernel
theorem bq_204_2 : mm_blk 204 2 = bk_204_2 := by decide +kernel
theorem r_204_e (x1 : Int) (x2 : Int) {hi : mm_Id → Int → Int} {dh : Int → Int} {nx ns : Int} {Q : mm_V → mm_H → Prop} (hy : 10581 ≤ nx) :
    mm_Cl 204 [zR (40, 0, 0), zI x1, zI x2] (mm_z hi dh nx ns) Q =
    mm_Cl 203 [zR (40, 0, 0), zI x1, zI x2, zI 2] (mm_z hi dh nx ns) (fun r h3 => mm_Wp 204 (bk_204_0.drop 5) [zR (40, 0, 0), zI x1, zI x2] (mm_push r []) h3 Q) :=
  mm_ce (l2 := [zR (40, 0, 0), zI x1, zI x2]) rfl (mm_kb bq_204_0 ((wp_5_0).trans ((wp_3_1).trans ((wp_3_2).trans ((wp_1).trans ((wp_v4 mm_n_203 (mm_leq mm_m_203 (mm_lb rfl)) (mm_lb rfl) (mm_o40 hy)).trans rfl))))))
theorem r_204_0_5 (x1 : Int) (x2 : Int) (y0 : Int) {hi : mm_Id → Int → Int} {dh : Int → Int} {nx ns : Int} {Q : mm_V → mm_H → Prop} (hy : 10581 ≤ nx) :
    mm_Wp 204 (bk_204_0.drop 5) [zR (40, 0, 0), zI x1, zI x2] [zI y0] (mm_z hi dh nx ns) Q =
    (if y0 = 0 then mm_Wp 204 (mm_blk 204 1) [zR (40, 0, 0), zI x1, zI x2] [] (mm_z hi dh nx ns) Q else mm_Cl 203 [zR (40, 0, 0), zI x1, zI x2, zI 1] (mm_z hi dh nx ns) (fun r h3 => mm_Wp 204 (bk_204_0.drop 11) [zR (40, 0, 0), zI x1, zI x2] (mm_push r []) h3 Q)) :=
  (wp_40).trans (mm_ic (rfl) ((wp_5_0).trans ((wp_3_1).trans ((wp_3_2).trans ((wp_1).trans ((wp_v4 mm_n_203 (mm_leq mm_m_203 (mm_lb rfl)) (mm_lb rfl) (mm_o40 hy)).trans rfl))))))
theorem r_204_1 (vx0 : mm_V) (vx1 : mm_V) (vx2 : mm_V) {hi : mm_Id → Int → Int} {dh : Int → Int} {nx ns : Int} {Q : mm_V → mm_H → Prop} (hy : 10581 ≤ nx) :
    mm_Wp 204 (mm_blk 204 1) [vx0, vx1, vx2] [] (mm_z hi dh nx ns) Q =
    mm_Wp 204 (mm_blk 204 2) [vx0, vx1, vx2] [zI 0] (mm_z hi dh nx ns) Q :=
  mm_kb bq_204_1 ((wp_1).trans ((wp_0).trans (rfl)))
theorem r_204_0_11 (vx0 : mm_V) (vx1 : mm_V) (vx2 : mm_V) (y0 : Int) {hi : mm_Id → Int → Int} {dh : Int → Int} {nx ns : Int} {Q : mm_V → mm_H → Prop} (hy : 10581 ≤ nx) :
    mm_Wp 204 (bk_204_0.drop 11) [vx0, vx1, vx2] [zI y0] (mm_z hi dh nx ns) Q =
    (if y0 = 0 then mm_Wp 204 (mm_blk 204 1) [vx0, vx1, vx2] [] (mm_z hi dh nx ns) Q else mm_Wp 204 (mm_blk 204 2) [vx0, vx1, vx2] [zI 1] (mm_z hi dh nx ns) Q) :=
  (wp_40).trans (mm_ic (rfl) ((wp_1).trans ((wp_56).trans (rfl))))
theorem r_204_2 (vx0 : mm_V) (vx1 : mm_V) (vx2 : mm_V) (y0 : Int) {hi : mm_Id → Int → Int} {dh : Int → Int} {nx ns : Int} {Q : mm_V → mm_H → Prop} (hy : 10581 ≤ nx) :
    mm_Wp 204 (mm_blk 204 2) [vx0, vx1, vx2] [zI y0] (mm_z hi dh nx ns) Q =
    ((y0 = 0 ∨ y0 = 1) ∧ Q (zI y0) (mm_z hi dh nx ns)) :=
  mm_kb bq_204_2 (wp_94z)
/-- PoolHouseModel.usedBy(II)I -/
theorem bq_205_0 : mm_blk 205 0 = bk_205_0 := by decide +kernel
theorem bq_205_1 : mm_blk 205 1 = bk_205_1 := by decide +kernel
theorem bq_205_2 : mm_blk 205 2 = bk_205_2 := by decide +kernel
theorem bq_205_3 : mm_blk 205 3 = bk_205_3 := by decide +kernel
theorem bq_205_4 : mm_blk 205 4 = bk_205_4 := by decide +kernel
theorem bq_205_5 : mm_blk 205 5 = bk_205_5 := by decide +kernel
theorem bq_205_6 : mm_blk 205 6 = bk_205_6 := by decide +kernel
theorem r_205_e (x1 : Int) (x2 : Int) {hi : mm_Id → Int → Int} {dh : Int → Int} {nx ns : Int} {Q : mm_V → mm_H → Prop} (hy : 10581 ≤ nx) :
    mm_Cl 205 [zR (40, 0, 0), zI x1, zI x2] (mm_z hi dh nx ns) Q =
    mm_Cl 175 [zI x1, zI 1] (mm_z hi dh nx ns) (fun r h3 => mm_Wp 205 (bk_205_0.drop 5) [zR (40, 0, 0), zI x1, zI x2, zI 0, zU, zU] (mm_push r []) h3 Q) :=
  mm_ce (l2 := [zR (40, 0, 0), zI x1, zI x2, zU, zU, zU]) rfl (mm_kb bq_205_0 ((wp_1).trans ((wp_6 (l2 := [zR (40, 0, 0), zI x1, zI x2, zI 0, zU, zU]) rfl).trans ((wp_3_1).trans ((wp_1).trans ((wp_s2 mm_n_175 (mm_leq mm_m_175 (mm_lb rfl)) (mm_lb rfl)).trans rfl))))))
theorem r_205_0_5 (x1 : Int) (x2 : Int) (x3 : Int) (vx4 : mm_V) (vx5 : mm_V) (y0 : Int) {hi : mm_Id → Int → Int} {dh : Int → Int} {nx ns : Int} {Q : mm_V → mm_H → Prop} (hy : 10581 ≤ nx) :
    mm_Wp 205 (bk_205_0.drop 5) [zR (40, 0, 0), zI x1, zI x2, zI x3, vx4, vx5] [zI y0] (mm_z hi dh nx ns) Q =
    mm_Wp 205 (mm_blk 205 1) [zR (40, 0, 0), zI x1, zI x2, zI x3, zI y0, vx5] [] (mm_z hi dh nx ns) Q :=
  (wp_6 (l2 := [zR (40, 0, 0), zI x1, zI x2, zI x3, zI y0, vx5]) rfl).trans ((wp_0).trans (rfl))
theorem r_205_1 (x1 : Int) (x2 : Int) (x3 : Int) (x4 : Int) (vx5 : mm_V) {hi : mm_Id → Int → Int} {dh : Int → Int} {nx ns : Int} {Q : mm_V → mm_H → Prop} (hy : 10581 ≤ nx) :
    mm_Wp 205 (mm_blk 205 1) [zR (40, 0, 0), zI x1, zI x2, zI x3, zI x4, vx5] [] (mm_z hi dh nx ns) Q =
    mm_Cl 175 [zI x1, zI 36] (mm_z hi dh nx ns) (fun r h3 => mm_Wp 205 (bk_205_1.drop 4) [zR (40, 0, 0), zI x1, zI x2, zI x3, zI x4, vx5] (mm_push r [zI x4]) h3 Q) :=
  mm_kb bq_205_1 ((wp_3_4).trans ((wp_3_1).trans ((wp_1).trans ((wp_s2 mm_n_175 (mm_leq mm_m_175 (mm_lb rfl)) (mm_lb rfl)).trans rfl))))
theorem r_205_1_4 (x1 : Int) (x2 : Int) (x3 : Int) (x4 : Int) (vx5 : mm_V) (y0 : Int) (y1 : Int) {hi : mm_Id → Int → Int} {dh : Int → Int} {nx ns : Int} {Q : mm_V → mm_H → Prop} (hy : 10581 ≤ nx) :
    mm_Wp 205 (bk_205_1.drop 4) [zR (40, 0, 0), zI x1, zI x2, zI x3, zI x4, vx5] [zI y0, zI y1] (mm_z hi dh nx ns) Q =
    (if y0 < y1 then Q (zI x3) (mm_z hi dh nx ns) else mm_Wp 205 (mm_blk 205 2) [zR (40, 0, 0), zI x1, zI x2, zI x3, zI x4, zI 0] [] (mm_z hi dh nx ns) Q) :=
  (wp_50).trans (mm_ic (mm_kb bq_205_6 ((wp_3_3).trans (wp_90))) ((wp_1).trans ((wp_6 (l2 := [zR (40, 0, 0), zI x1, zI x2, zI x3, zI x4, zI 0]) rfl).trans ((wp_0).trans (rfl)))))
theorem r_205_2 (x1 : Int) (x2 : Int) (x3 : Int) (x4 : Int) (x5 : Int) {hi : mm_Id → Int → Int} {dh : Int → Int} {nx ns : Int} {Q : mm_V → mm_H → Prop} (hy : 10581 ≤ nx) :
    mm_Wp 205 (mm_blk 205 2) [zR (40, 0, 0), zI x1, zI x2, zI x3, zI x4, zI x5] [] (mm_z hi dh nx ns) Q =
    (if x5 < 36 then ((0 ≤ x4 ∧ x4 < 1044) ∧ (if (hi (41, 0, 0) x4) = 1 then ((0 ≤ x4 ∧ x4 < 1044) ∧ (if (hi (47, 0, 0) x4) = x2 then ((0 ≤ (mm_w ((mm_w (36 * x4)) + x5)) ∧ (mm_w ((mm_w (36 * x4)) + x5)) < 37584) ∧ (if 0 < (hi (43, 0, 0) (mm_w ((mm_w (36 * x4)) + x5))) then mm_Wp 205 (mm_blk 205 4) [zR (40, 0, 0), zI x1, zI x2, zI x3, zI x4, zI x5] [zI 1, zI x3] (mm_z hi dh nx ns) Q else mm_Wp 205 (mm_blk 205 4) [zR (40, 0, 0), zI x1, zI x2, zI x3, zI x4, zI x5] [zI 0, zI x3] (mm_z hi dh nx ns) Q)) else mm_Wp 205 (mm_blk 205 5) [zR (40, 0, 0), zI x1, zI x2, zI x3, zI x4, zI x5] [] (mm_z hi dh nx ns) Q)) else mm_Wp 205 (mm_blk 205 5) [zR (40, 0, 0), zI x1, zI x2, zI x3, zI x4, zI x5] [] (mm_z hi dh nx ns) Q)) else mm_Wp 205 (mm_blk 205 5) [zR (40, 0, 0), zI x1, zI x2, zI x3, zI x4, zI x5] [] (mm_z hi dh nx ns) Q) :=
  mm_kb bq_205_2 ((wp_3_5).trans ((wp_1).trans ((wp_49).trans (mm_ic ((wp_5_0).trans ((wp_62 (by decide) (mm_o40 hy) (mm_r40_2 hy)).trans ((wp_3_4).trans ((wp_70 (mm_q41 hy)).trans (mm_ae ((wp_1).trans ((wp_47).trans (mm_ic ((wp_5_0).trans ((wp_62 (by decide) (mm_o40 hy) (mm_r40_8 hy)).trans ((wp_3_4).trans ((wp_70 (mm_q47 hy)).trans (mm_ae ((wp_3_2).trans ((wp_47).trans (mm_ic ((wp_3_3).trans ((wp_5_0).trans ((wp_62 (by decide) (mm_o40 hy) (mm_r40_4 hy)).trans ((wp_1).trans ((wp_3_4).trans ((wp_12).trans ((wp_3_5).trans ((wp_10).trans ((wp_70 (mm_q43 hy)).trans (mm_ae ((wp_45).trans (mm_ic ((wp_1).trans ((wp_56).trans (rfl))) (mm_kb bq_205_3 ((wp_1).trans ((wp_0).trans (rfl)))))))))))))))) (rfl))))))))) (rfl))))))))) (rfl)))))
theorem r_205_5 (x1 : Int) (x2 : Int) (x3 : Int) (x4 : Int) (vx5 : mm_V) {hi : mm_Id → Int → Int} {dh : Int → Int} {nx ns : Int} {Q : mm_V → mm_H → Prop} (hy : 10581 ≤ nx) :
    mm_Wp 205 (mm_blk 205 5) [zR (40, 0, 0), zI x1, zI x2, zI x3, zI x4, vx5] [] (mm_z hi dh nx ns) Q =
    mm_Wp 205 (mm_blk 205 1) [zR (40, 0, 0), zI x1, zI x2, zI x3, zI (mm_w (x4 + 1)), vx5] [] (mm_z hi dh nx ns) Q :=
  mm_kb bq_205_5 ((wp_9 (l2 := [zR (40, 0, 0), zI x1, zI x2, zI x3, zI (mm_w (x4 + 1)), vx5]) rfl rfl).trans ((wp_56).trans (rfl)))
theorem r_205_4 (x1 : Int) (x2 : Int) (vx3 : mm_V) (x4 : Int) (x5 : Int) (y0 : Int) (y1 : Int) {hi : mm_Id → Int → Int} {dh : Int → Int} {nx ns : Int} {Q : mm_V → mm_H → Prop} (hy : 10581 ≤ nx) :
    mm_Wp 205 (mm_blk 205 4) [zR (40, 0, 0), zI x1, zI x2, vx3, zI x4, zI x5] [zI y0, zI y1] (mm_z hi dh nx ns) Q =
    mm_Wp 205 (mm_blk 205 2) [zR (40, 0, 0), zI x1, zI x2, zI (mm_w (y1 + y0)), zI x4, zI (mm_w (x5 + 1))] [] (mm_z hi dh nx ns) Q :=
  mm_kb bq_205_4 ((wp_10).trans ((wp_6 (l2 := [zR (40, 0, 0), zI x1, zI x2, zI (mm_w (y1 + y0)), zI x4, zI x5]) rfl).trans ((wp_9 (l2 := [zR (40, 0, 0), zI x1, zI x2, zI (mm_w (y1 + y0)), zI x4, zI (mm_w (x5 + 1))]) rfl rfl).trans ((wp_56).trans (rfl)))))
/-- PoolHouseModel.isWithin(II)Z -/
theorem bq_206_0 : mm_blk 206 0 = bk_206_0 := by decide +kernel
theorem bq_206_1 : mm_blk 206 1 = bk_206_1 := by decide +kernel
theorem bq_206_2 : mm_blk 206 2 = bk_206_2 := by decide +kernel
theorem r_206_e (x1 : Int) (x2 : Int) {hi : mm_Id → Int → Int} {dh : Int → Int} {nx ns : Int} {Q : mm_V → mm_H → Prop} (hy : 10581 ≤ nx) :
    mm_Cl 206 [zR (40, 0, 0), zI x1, zI x2] (mm_z hi dh nx ns) Q =
    mm_Cl 205 [zR (40, 0, 0), zI x1, zI x2] (mm_z hi dh nx ns) (fun r h3 => mm_Wp 206 (bk_206_0.drop 4) [zR (40, 0, 0), zI x1, zI x2] (mm_push r []) h3 Q) :=
  mm_ce (l2 := [zR (40, 0, 0), zI x1, zI x2]) rfl (mm_kb bq_206_0 ((wp_5_0).trans ((wp_3_1).trans ((wp_3_2).trans ((wp_v3 mm_n_205 (mm_leq mm_m_205 (mm_lb rfl)) (mm_lb rfl) (mm_o40 hy)).trans rfl)))))
theorem r_206_0_4 (x1 : Int) (x2 : Int) (y0 : Int) {hi : mm_Id → Int → Int} {dh : Int → Int} {nx ns : Int} {Q : mm_V → mm_H → Prop} (hy : 10581 ≤ nx) :
    mm_Wp 206 (bk_206_0.drop 4) [zR (40, 0, 0), zI x1, zI x2] [zI y0] (mm_z hi dh nx ns) Q =
    ((0 ≤ (mm_w ((mm_w (8 * x1)) + x2)) ∧ (mm_w ((mm_w (8 * x1)) + x2)) < 208) ∧ (if (hi (61, 0, 0) (mm_w ((mm_w (8 * x1)) + x2))) < y0 then mm_Wp 206 (mm_blk 206 2) [zR (40, 0, 0), zI x1, zI x2] [zI 0] (mm_z hi dh nx ns) Q else mm_Wp 206 (mm_blk 206 2) [zR (40, 0, 0), zI x1, zI x2] [zI 1] (mm_z hi dh nx ns) Q)) :=
  (wp_5_0).trans ((wp_62 (by decide) (mm_o40 hy) (mm_r40_23 hy)).trans ((wp_1).trans ((wp_3_1).trans ((wp_12).trans ((wp_3_2).trans ((wp_10).trans ((wp_70 (mm_q61 hy)).trans (mm_ae ((wp_50).trans (mm_ic (mm_kb bq_206_1 ((wp_1).trans ((wp_0).trans (rfl)))) ((wp_1).trans ((wp_56).trans (rfl)))))))))))))
theorem r_206_2 (vx0 : mm_V) (vx1 : mm_V) (vx2 : mm_V) (y0 : Int) {hi : mm_Id → Int → Int} {dh : Int → Int} {nx ns : Int} {Q : mm_V → mm_H → Prop} (hy : 10581 ≤ nx) :
    mm_Wp 206 (mm_blk 206 2) [vx0, vx1, vx2] [zI y0] (mm_z hi dh nx ns) Q =
    ((y0 = 0 ∨ y0 = 1) ∧ Q (zI y0) (mm_z hi dh nx ns)) :=
  mm_kb bq_206_2 (wp_94z)
/-- PoolHouseModel.byteOf(III)I -/
theorem bq_207_0 : mm_blk 207 0 = bk_207_0 := by decide +kernel
theorem bq_207_1 : mm_blk 207 1 = bk_207_1 := by decide +kernel
theorem bq_207_2 : mm_blk 207 2 = bk_207_2 := by decide +kernel
theorem r_207_e (x1 : Int) (x2 : Int) (x3 : Int) {hi : mm_Id → Int → Int} {dh : Int → Int} {nx ns : Int} {Q : mm_V → mm_H → Prop} (hy : 10581 ≤ nx) :
    mm_Cl 207 [zR (40, 0, 0), zI x1, zI x2, zI x3] (mm_z hi dh nx ns) Q =
    mm_Cl 175 [zI x1, zI x2] (mm_z hi dh nx ns) (fun r h3 => mm_Wp 207 (bk_207_0.drop 6) [zR (40, 0, 0), zI x1, zI x2, zI x3, zU] (mm_push r [zI 36, zR (43, 0, 0)]) h3 Q) :=
  mm_ce (l2 := [zR (40, 0, 0), zI x1, zI x2, zI x3, zU]) rfl (mm_kb bq_207_0 ((wp_5_0).trans ((wp_62 (by decide) (mm_o40 hy) (mm_r40_4 hy)).trans ((wp_1).trans ((wp_3_1).trans ((wp_3_2).trans ((wp_s2 mm_n_175 (mm_leq mm_m_175 (mm_lb rfl)) (mm_lb rfl)).trans rfl)))))))
theorem r_207_0_6 (vx1 : mm_V) (vx2 : mm_V) (x3 : Int) (vx4 : mm_V) (y0 : Int) (y1 : Int) {hi : mm_Id → Int → Int} {dh : Int → Int} {nx ns : Int} {Q : mm_V → mm_H → Prop} (hy : 10581 ≤ nx) :
    mm_Wp 207 (bk_207_0.drop 6) [zR (40, 0, 0), vx1, vx2, zI x3, vx4] [zI y0, zI y1, zR (43, 0, 0)] (mm_z hi dh nx ns) Q =
    ((0 ≤ (mm_w ((mm_w (y1 * y0)) + (mm_w (Int.tdiv x3 60)))) ∧ (mm_w ((mm_w (y1 * y0)) + (mm_w (Int.tdiv x3 60)))) < 37584) ∧ (if (hi (43, 0, 0) (mm_w ((mm_w (y1 * y0)) + (mm_w (Int.tdiv x3 60))))) = 0 then mm_Wp 207 (mm_blk 207 2) [zR (40, 0, 0), vx1, vx2, zI x3, zI (hi (43, 0, 0) (mm_w ((mm_w (y1 * y0)) + (mm_w (Int.tdiv x3 60)))))] [zI 0] (mm_z hi dh nx ns) Q else ((0 ≤ (mm_w ((mm_w (60 * (hi (43, 0, 0) (mm_w ((mm_w (y1 * y0)) + (mm_w (Int.tdiv x3 60))))))) + (Int.tmod x3 60))) ∧ (mm_w ((mm_w (60 * (hi (43, 0, 0) (mm_w ((mm_w (y1 * y0)) + (mm_w (Int.tdiv x3 60))))))) + (Int.tmod x3 60))) < 180060) ∧ mm_Wp 207 (mm_blk 207 2) [zR (40, 0, 0), vx1, vx2, zI x3, zI (hi (43, 0, 0) (mm_w ((mm_w (y1 * y0)) + (mm_w (Int.tdiv x3 60)))))] [zI (mm_and (hi (54, 0, 0) (mm_w ((mm_w (60 * (hi (43, 0, 0) (mm_w ((mm_w (y1 * y0)) + (mm_w (Int.tdiv x3 60))))))) + (Int.tmod x3 60)))) 255)] (mm_z hi dh nx ns) Q))) :=
  (wp_12).trans ((wp_3_3).trans ((wp_1).trans ((wp_13 (by decide)).trans ((wp_10).trans ((wp_70 (mm_q43 hy)).trans (mm_ae ((wp_6 (l2 := [zR (40, 0, 0), vx1, vx2, zI x3, zI (hi (43, 0, 0) (mm_w ((mm_w (y1 * y0)) + (mm_w (Int.tdiv x3 60)))))]) rfl).trans ((wp_3_4).trans ((wp_41).trans (mm_ic ((wp_1).trans ((wp_56).trans (rfl))) (mm_kb bq_207_1 ((wp_5_0).trans ((wp_62 (by decide) (mm_o40 hy) (mm_r40_15 hy)).trans ((wp_1).trans ((wp_3_4).trans ((wp_12).trans ((wp_3_3).trans ((wp_1).trans ((wp_14 (by decide)).trans ((wp_10).trans ((wp_71 (mm_q54 hy)).trans (mm_ae ((wp_1).trans ((wp_16).trans ((wp_0).trans (rfl))))))))))))))))))))))))))
theorem r_207_2 (vx0 : mm_V) (vx1 : mm_V) (vx2 : mm_V) (vx3 : mm_V) (vx4 : mm_V) (y0 : Int) {hi : mm_Id → Int → Int} {dh : Int → Int} {nx ns : Int} {Q : mm_V → mm_H → Prop} (hy : 10581 ≤ nx) :
    mm_Wp 207 (mm_blk 207 2) [vx0, vx1, vx2, vx3, vx4] [zI y0] (mm_z hi dh nx ns) Q =
    Q (zI y0) (mm_z hi dh nx ns) :=
  mm_kb bq_207_2 (wp_90)
/-- PoolHouseModel.putDown()V -/
theorem bq_208_0 : mm_blk 208 0 = bk_208_0 := by decide +kernel
theorem bq_208_1 : mm_blk 208 1 = bk_208_1 := by decide +kernel
theorem bq_208_2 : mm_blk 208 2 = bk_208_2 := by decide +kernel
theorem bq_208_3 : mm_blk 208 3 = bk_208_3 := by decide +kernel
theorem bq_208_4 : mm_blk 208 4 = bk_208_4 := by decide +kernel
theorem r_208_e  {hi : mm_Id → Int → Int} {dh : Int → Int} {nx ns : Int} {Q : mm_V → mm_H → Prop} (hy : 10581 ≤ nx) :
    mm_Cl 208 [zR (40, 0, 0)] (mm_z hi dh nx ns) Q =
    mm_Wp 208 (mm_blk 208 1) [zR (40, 0, 0), zI 0, zU] [] (mm_z (mm_up hi (40, 0, 0) 33 0) dh nx ns) Q :=
  mm_ce (l2 := [zR (40, 0, 0), zU, zU]) rfl (mm_kb bq_208_0 ((wp_5_0).trans ((wp_1).trans ((wp_63 (mm_o40 hy)).trans ((wp_1).trans ((wp_6 (l2 := [zR (40, 0, 0), zI 0, zU]) rfl).trans ((wp_0).trans (rfl))))))))
theorem r_208_1 (x1 : Int) (vx2 : mm_V) {hi : mm_Id → Int → Int} {dh : Int → Int} {nx ns : Int} {Q : mm_V → mm_H → Prop} (hy : 10581 ≤ nx) :
    mm_Wp 208 (mm_blk 208 1) [zR (40, 0, 0), zI x1, vx2] [] (mm_z hi dh nx ns) Q =
    (if x1 < 13 then ((0 ≤ x1 ∧ x1 < 26) ∧ ((0 ≤ (mm_w (13 + x1)) ∧ (mm_w (13 + x1)) < 26) ∧ ((0 ≤ x1 ∧ x1 < 26) ∧ ((0 ≤ (mm_w (13 + x1)) ∧ (mm_w (13 + x1)) < 26) ∧ ((0 ≤ x1 ∧ x1 < 26) ∧ ((0 ≤ (mm_w (13 + x1)) ∧ (mm_w (13 + x1)) < 26) ∧ ((0 ≤ x1 ∧ x1 < 26) ∧ (((((mm_up (mm_up (mm_up hi (57, 0, 0) (mm_w (13 + x1)) (hi (57, 0, 0) x1)) (58, 0, 0) (mm_w (13 + x1)) ((mm_up hi (57, 0, 0) (mm_w (13 + x1)) (hi (57, 0, 0) x1)) (58, 0, 0) x1)) (59, 0, 0) (mm_w (13 + x1)) ((mm_up (mm_up hi (57, 0, 0) (mm_w (13 + x1)) (hi (57, 0, 0) x1)) (58, 0, 0) (mm_w (13 + x1)) ((mm_up hi (57, 0, 0) (mm_w (13 + x1)) (hi (57, 0, 0) x1)) (58, 0, 0) x1)) (59, 0, 0) x1)) (60, 0, 0) x1) = 0 ∨ ((mm_up (mm_up (mm_up hi (57, 0, 0) (mm_w (13 + x1)) (hi (57, 0, 0) x1)) (58, 0, 0) (mm_w (13 + x1)) ((mm_up hi (57, 0, 0) (mm_w (13 + x1)) (hi (57, 0, 0) x1)) (58, 0, 0) x1)) (59, 0, 0) (mm_w (13 + x1)) ((mm_up (mm_up hi (57, 0, 0) (mm_w (13 + x1)) (hi (57, 0, 0) x1)) (58, 0, 0) (mm_w (13 + x1)) ((mm_up hi (57, 0, 0) (mm_w (13 + x1)) (hi (57, 0, 0) x1)) (58, 0, 0) x1)) (59, 0, 0) x1)) (60, 0, 0) x1) = 1) ∧ 0 ≤ (mm_w (13 + x1)) ∧ (mm_w (13 + x1)) < 26) ∧ mm_Wp 208 (mm_blk 208 2) [zR (40, 0, 0), zI x1, zI 0] [] (mm_z (mm_up (mm_up (mm_up (mm_up hi (57, 0, 0) (mm_w (13 + x1)) (hi (57, 0, 0) x1)) (58, 0, 0) (mm_w (13 + x1)) ((mm_up hi (57, 0, 0) (mm_w (13 + x1)) (hi (57, 0, 0) x1)) (58, 0, 0) x1)) (59, 0, 0) (mm_w (13 + x1)) ((mm_up (mm_up hi (57, 0, 0) (mm_w (13 + x1)) (hi (57, 0, 0) x1)) (58, 0, 0) (mm_w (13 + x1)) ((mm_up hi (57, 0, 0) (mm_w (13 + x1)) (hi (57, 0, 0) x1)) (58, 0, 0) x1)) (59, 0, 0) x1)) (60, 0, 0) (mm_w (13 + x1)) ((mm_up (mm_up (mm_up hi (57, 0, 0) (mm_w (13 + x1)) (hi (57, 0, 0) x1)) (58, 0, 0) (mm_w (13 + x1)) ((mm_up hi (57, 0, 0) (mm_w (13 + x1)) (hi (57, 0, 0) x1)) (58, 0, 0) x1)) (59, 0, 0) (mm_w (13 + x1)) ((mm_up (mm_up hi (57, 0, 0) (mm_w (13 + x1)) (hi (57, 0, 0) x1)) (58, 0, 0) (mm_w (13 + x1)) ((mm_up hi (57, 0, 0) (mm_w (13 + x1)) (hi (57, 0, 0) x1)) (58, 0, 0) x1)) (59, 0, 0) x1)) (60, 0, 0) x1)) dh nx ns) Q)))))))) else Q zU (mm_z hi dh nx ns)) :=
  mm_kb bq_208_1 ((wp_3_1).trans ((wp_1).trans ((wp_49).trans (mm_ic ((wp_5_0).trans ((wp_62 (by decide) (mm_o40 hy) (mm_r40_19 hy)).trans ((wp_1).trans ((wp_3_1).trans ((wp_10).trans ((wp_5_0).trans ((wp_62 (by decide) (mm_o40 hy) (mm_r40_19 hy)).trans ((wp_3_1).trans ((wp_70 (mm_q57 hy)).trans (mm_ae ((wp_74 (mm_q57 hy)).trans (mm_ae ((wp_5_0).trans ((wp_62 (by decide) (mm_o40 hy) (mm_r40_20 hy)).trans ((wp_1).trans ((wp_3_1).trans ((wp_10).trans ((wp_5_0).trans ((wp_62 (by decide) (mm_o40 hy) (mm_r40_20 hy)).trans ((wp_3_1).trans ((wp_70 (mm_q58 hy)).trans (mm_ae ((wp_74 (mm_q58 hy)).trans (mm_ae ((wp_5_0).trans ((wp_62 (by decide) (mm_o40 hy) (mm_r40_21 hy)).trans ((wp_1).trans ((wp_3_1).trans ((wp_10).trans ((wp_5_0).trans ((wp_62 (by decide) (mm_o40 hy) (mm_r40_21 hy)).trans ((wp_3_1).trans ((wp_70 (mm_q59 hy)).trans (mm_ae ((wp_74 (mm_q59 hy)).trans (mm_ae ((wp_5_0).trans ((wp_62 (by decide) (mm_o40 hy) (mm_r40_22 hy)).trans ((wp_1).trans ((wp_3_1).trans ((wp_10).trans ((wp_5_0).trans ((wp_62 (by decide) (mm_o40 hy) (mm_r40_22 hy)).trans ((wp_3_1).trans ((wp_71z (mm_q60 hy)).trans (mm_ae ((wp_75zv (mm_q60 hy)).trans (mm_ae ((wp_1).trans ((wp_6 (l2 := [zR (40, 0, 0), zI x1, zI 0]) rfl).trans ((wp_0).trans (rfl)))))))))))))))))))))))))))))))))))))))))))))))))))) (mm_kb bq_208_4 (wp_93))))))
theorem r_208_2 (x1 : Int) (x2 : Int) {hi : mm_Id → Int → Int} {dh : Int → Int} {nx ns : Int} {Q : mm_V → mm_H → Prop} (hy : 10581 ≤ nx) :
    mm_Wp 208 (mm_blk 208 2) [zR (40, 0, 0), zI x1, zI x2] [] (mm_z hi dh nx ns) Q =
    (if x2 < 8 then ((0 ≤ (mm_w ((mm_w (8 * x1)) + x2)) ∧ (mm_w ((mm_w (8 * x1)) + x2)) < 208) ∧ ((0 ≤ (mm_w ((mm_w (8 * (mm_w (13 + x1)))) + x2)) ∧ (mm_w ((mm_w (8 * (mm_w (13 + x1)))) + x2)) < 208) ∧ mm_Wp 208 (mm_blk 208 2) [zR (40, 0, 0), zI x1, zI (mm_w (x2 + 1))] [] (mm_z (mm_up hi (61, 0, 0) (mm_w ((mm_w (8 * (mm_w (13 + x1)))) + x2)) (hi (61, 0, 0) (mm_w ((mm_w (8 * x1)) + x2)))) dh nx ns) Q)) else mm_Cl 179 [zR (40, 0, 0), zI x1, zI (mm_w (13 + x1))] (mm_z hi dh nx ns) (fun r h3 => mm_Wp 208 (bk_208_3.drop 6) [zR (40, 0, 0), zI x1, zI x2] (mm_push r []) h3 Q)) :=
  mm_kb bq_208_2 ((wp_3_2).trans ((wp_1).trans ((wp_49).trans (mm_ic ((wp_5_0).trans ((wp_62 (by decide) (mm_o40 hy) (mm_r40_23 hy)).trans ((wp_1).trans ((wp_1).trans ((wp_3_1).trans ((wp_10).trans ((wp_12).trans ((wp_3_2).trans ((wp_10).trans ((wp_5_0).trans ((wp_62 (by decide) (mm_o40 hy) (mm_r40_23 hy)).trans ((wp_1).trans ((wp_3_1).trans ((wp_12).trans ((wp_3_2).trans ((wp_10).trans ((wp_70 (mm_q61 hy)).trans (mm_ae ((wp_74 (mm_q61 hy)).trans (mm_ae ((wp_9 (l2 := [zR (40, 0, 0), zI x1, zI (mm_w (x2 + 1))]) rfl rfl).trans ((wp_56).trans (rfl))))))))))))))))))))))) (mm_kb bq_208_3 ((wp_5_0).trans ((wp_3_1).trans ((wp_1).trans ((wp_3_1).trans ((wp_10).trans ((wp_v3 mm_n_179 (mm_leq mm_m_179 (mm_lb rfl)) (mm_lb rfl) (mm_o40 hy)).trans rfl)))))))))))
theorem r_208_3_6 (x1 : Int) (vx2 : mm_V) {hi : mm_Id → Int → Int} {dh : Int → Int} {nx ns : Int} {Q : mm_V → mm_H → Prop} (hy : 10581 ≤ nx) :
    mm_Wp 208 (bk_208_3.drop 6) [zR (40, 0, 0), zI x1, vx2] [] (mm_z hi dh nx ns) Q =
    mm_Wp 208 (mm_blk 208 1) [zR (40, 0, 0), zI (mm_w (x1 + 1)), vx2] [] (mm_z hi dh nx ns) Q :=
  (wp_9 (l2 := [zR (40, 0, 0), zI (mm_w (x1 + 1)), vx2]) rfl rfl).trans ((wp_56).trans (rfl))
/-- PoolHouseModel.act()V -/
theorem bq_209_0 : mm_blk 209 0 = bk_209_0 := by decide +kernel
theorem bq_209_1 : mm_blk 209 1 = bk_209_1 := by decide +kernel
theorem r_209_e  {hi : mm_Id → Int → Int} {dh : Int → Int} {nx ns : Int} {Q : mm_V → mm_H → Prop} (hy : 10581 ≤ nx) :
    mm_Cl 209 [zR (40, 0, 0)] (mm_z hi dh nx ns) Q =
    (if ((mm_up hi (40, 0, 0) 33 (mm_w ((hi (40, 0, 0) 33) + 1))) (40, 0, 0) 33) = 100 then mm_Cl 208 [zR (40, 0, 0)] (mm_z (mm_up hi (40, 0, 0) 33 (mm_w ((hi (40, 0, 0) 33) + 1))) dh nx ns) (fun r h3 => mm_Wp 209 (bk_209_0.drop 12) [zR (40, 0, 0)] (mm_push r []) h3 Q) else mm_Wp 209 (mm_blk 209 1) [zR (40, 0, 0)] [] (mm_z (mm_up hi (40, 0, 0) 33 (mm_w ((hi (40, 0, 0) 33) + 1))) dh nx ns) Q) :=
  mm_ce (l2 := [zR (40, 0, 0)]) rfl (mm_kb bq_209_0 ((wp_5_0).trans ((wp_35r).trans ((wp_60 (by decide) (mm_o40 hy)).trans ((wp_1).trans ((wp_10).trans ((wp_63 (mm_o40 hy)).trans ((wp_5_0).trans ((wp_60 (by decide) (mm_o40 hy)).trans ((wp_1).trans ((wp_47).trans (mm_ic ((wp_5_0).trans ((wp_v1 mm_n_208 (mm_leq mm_m_208 (mm_lb rfl)) (mm_lb rfl) (mm_o40 hy)).trans rfl)) (rfl)))))))))))))
theorem r_209_1 (vx0 : mm_V) {hi : mm_Id → Int → Int} {dh : Int → Int} {nx ns : Int} {Q : mm_V → mm_H → Prop} (hy : 10581 ≤ nx) :
    mm_Wp 209 (mm_blk 209 1) [vx0] [] (mm_z hi dh nx ns) Q =
    Q zU (mm_z hi dh nx ns) :=
  mm_kb bq_209_1 (wp_93)
theorem r_209_0_12 (vx0 : mm_V) {hi : mm_Id → Int → Int} {dh : Int → Int} {nx ns : Int} {Q : mm_V → mm_H → Prop} (hy : 10581 ≤ nx) :
    mm_Wp 209 (bk_209_0.drop 12) [vx0] [] (mm_z hi dh nx ns) Q =
    mm_Wp 209 (mm_blk 209 1) [vx0] [] (mm_z hi dh nx ns) Q :=
  (wp_0).trans (rfl)
/-- PoolHouseModel.isNode(II)Z -/
theorem bq_210_0 : mm_blk 210 0 = bk_210_0 := by decide +kernel
theorem bq_210_1 : mm_blk 210 1 = bk_210_1 := by decide +kernel
theorem bq_210_2 : mm_blk 210 2 = bk_210_2 := by decide +kernel
theorem r_210_e (x1 : Int) (x2 : Int) {hi : mm_Id → Int → Int} {dh : Int → Int} {nx ns : Int} {Q : mm_V → mm_H → Prop} (hy : 10581 ≤ nx) :
    mm_Cl 210 [zR (40, 0, 0), zI x1, zI x2] (mm_z hi dh nx ns) Q =
    (if x1 < 0 then mm_Wp 210 (mm_blk 210 1) [zR (40, 0, 0), zI x1, zI x2] [] (mm_z hi dh nx ns) Q else mm_Cl 176 [zR (40, 0, 0), zI x1, zI x2] (mm_z hi dh nx ns) (fun r h3 => mm_Wp 210 (bk_210_0.drop 6) [zR (40, 0, 0), zI x1, zI x2] (mm_push r []) h3 Q)) :=
  mm_ce (l2 := [zR (40, 0, 0), zI x1, zI x2]) rfl (mm_kb bq_210_0 ((wp_3_1).trans ((wp_42).trans (mm_ic (rfl) ((wp_5_0).trans ((wp_3_1).trans ((wp_3_2).trans ((wp_v3 mm_n_176 (mm_leq mm_m_176 (mm_lb rfl)) (mm_lb rfl) (mm_o40 hy)).trans rfl))))))))
theorem r_210_1 (vx0 : mm_V) (vx1 : mm_V) (vx2 : mm_V) {hi : mm_Id → Int → Int} {dh : Int → Int} {nx ns : Int} {Q : mm_V → mm_H → Prop} (hy : 10581 ≤ nx) :
    mm_Wp 210 (mm_blk 210 1) [vx0, vx1, vx2] [] (mm_z hi dh nx ns) Q =
    mm_Wp 210 (mm_blk 210 2) [vx0, vx1, vx2] [zI 0] (mm_z hi dh nx ns) Q :=
  mm_kb bq_210_1 ((wp_1).trans ((wp_0).trans (rfl)))
theorem r_210_0_6 (vx0 : mm_V) (vx1 : mm_V) (vx2 : mm_V) (y0 : Int) {hi : mm_Id → Int → Int} {dh : Int → Int} {nx ns : Int} {Q : mm_V → mm_H → Prop} (hy : 10581 ≤ nx) :
    mm_Wp 210 (bk_210_0.drop 6) [vx0, vx1, vx2] [zI y0] (mm_z hi dh nx ns) Q =
    (if y0 = 0 then mm_Wp 210 (mm_blk 210 1) [vx0, vx1, vx2] [] (mm_z hi dh nx ns) Q else mm_Wp 210 (mm_blk 210 2) [vx0, vx1, vx2] [zI 1] (mm_z hi dh nx ns) Q) :=
  (wp_40).trans (mm_ic (rfl) ((wp_1).trans ((wp_56).trans (rfl))))
theorem r_210_2 (vx0 : mm_V) (vx1 : mm_V) (vx2 : mm_V) (y0 : Int) {hi : mm_Id → Int → Int} {dh : Int → Int} {nx ns : Int} {Q : mm_V → mm_H → Prop} (hy : 10581 ≤ nx) :
    mm_Wp 210 (mm_blk 210 2) [vx0, vx1, vx2] [zI y0] (mm_z hi dh nx ns) Q =
    ((y0 = 0 ∨ y0 = 1) ∧ Q (zI y0) (mm_z hi dh nx ns)) :=
  mm_kb bq_210_2 (wp_94z)
/-- PoolHouseModel.isDirectory(II)Z -/
theorem bq_211_0 : mm_blk 211 0 = bk_211_0 := by decide +kernel
theorem bq_211_1 : mm_blk 211 1 = bk_211_1 := by decide +kernel
theorem bq_211_2 : mm_blk 211 2 = bk_211_2 := by decide +kernel
theorem r_211_e (x1 : Int) (x2 : Int) {hi : mm_Id → Int → Int} {dh : Int → Int} {nx ns : Int} {Q : mm_V → mm_H → Prop} (hy : 10581 ≤ nx) :
    mm_Cl 211 [zR (40, 0, 0), zI x1, zI x2] (mm_z hi dh nx ns) Q =
    mm_Cl 175 [zI x1, zI x2] (mm_z hi dh nx ns) (fun r h3 => mm_Wp 211 (bk_211_0.drop 5) [zR (40, 0, 0), zI x1, zI x2] (mm_push r [zR (41, 0, 0)]) h3 Q) :=
  mm_ce (l2 := [zR (40, 0, 0), zI x1, zI x2]) rfl (mm_kb bq_211_0 ((wp_5_0).trans ((wp_62 (by decide) (mm_o40 hy) (mm_r40_2 hy)).trans ((wp_3_1).trans ((wp_3_2).trans ((wp_s2 mm_n_175 (mm_leq mm_m_175 (mm_lb rfl)) (mm_lb rfl)).trans rfl))))))
theorem r_211_0_5 (vx0 : mm_V) (vx1 : mm_V) (vx2 : mm_V) (y0 : Int) {hi : mm_Id → Int → Int} {dh : Int → Int} {nx ns : Int} {Q : mm_V → mm_H → Prop} (hy : 10581 ≤ nx) :
    mm_Wp 211 (bk_211_0.drop 5) [vx0, vx1, vx2] [zI y0, zR (41, 0, 0)] (mm_z hi dh nx ns) Q =
    ((0 ≤ y0 ∧ y0 < 1044) ∧ (if (hi (41, 0, 0) y0) = 2 then mm_Wp 211 (mm_blk 211 2) [vx0, vx1, vx2] [zI 1] (mm_z hi dh nx ns) Q else mm_Wp 211 (mm_blk 211 2) [vx0, vx1, vx2] [zI 0] (mm_z hi dh nx ns) Q)) :=
  (wp_70 (mm_q41 hy)).trans (mm_ae ((wp_1).trans ((wp_47).trans (mm_ic ((wp_1).trans ((wp_56).trans (rfl))) (mm_kb bq_211_1 ((wp_1).trans ((wp_0).trans (rfl))))))))
theorem r_211_2 (vx0 : mm_V) (vx1 : mm_V) (vx2 : mm_V) (y0 : Int) {hi : mm_Id → Int → Int} {dh : Int → Int} {nx ns : Int} {Q : mm_V → mm_H → Prop} (hy : 10581 ≤ nx) :
    mm_Wp 211 (mm_blk 211 2) [vx0, vx1, vx2] [zI y0] (mm_z hi dh nx ns) Q =
    ((y0 = 0 ∨ y0 = 1) ∧ Q (zI y0) (mm_z hi dh nx ns)) :=
  mm_kb bq_211_2 (wp_94z)
/-- PoolHouseModel.make(IIII)I -/
theorem bq_212_0 : mm_blk 212 0 = bk_212_0 := by decide +kernel
theorem bq_212_1 : mm_blk 212 1 = bk_212_1 := by decide +kernel
theorem bq_212_2 : mm_blk 212 2 = bk_212_2 := by decide +kernel
theorem bq_212_3 : mm_blk 212 3 = bk_212_3 := by decide +kernel
theorem r_212_e (x1 : Int) (x2 : Int) (x3 : Int) (x4 : Int) {hi : mm_Id → Int → Int} {dh : Int → Int} {nx ns : Int} {Q : mm_V → mm_H → Prop} (hy : 10581 ≤ nx) :
    mm_Cl 212 [zR (40, 0, 0), zI x1, zI x2, zI x3, zI x4] (mm_z hi dh nx ns) Q =
    mm_Cl 181 [zR (40, 0, 0), zI x1] (mm_z (mm_up hi (40, 0, 0) 0 0) dh nx ns) (fun r h3 => mm_Wp 212 (bk_212_0.drop 6) [zR (40, 0, 0), zI x1, zI x2, zI x3, zI x4, zU] (mm_push r []) h3 Q) :=
  mm_ce (l2 := [zR (40, 0, 0), zI x1, zI x2, zI x3, zI x4, zU]) rfl (mm_kb bq_212_0 ((wp_5_0).trans ((wp_1).trans ((wp_63 (mm_o40 hy)).trans ((wp_5_0).trans ((wp_3_1).trans ((wp_v2 mm_n_181 (mm_leq mm_m_181 (mm_lb rfl)) (mm_lb rfl) (mm_o40 hy)).trans rfl)))))))
theorem r_212_0_6 (vx1 : mm_V) (x2 : Int) (x3 : Int) (x4 : Int) (vx5 : mm_V) (y0 : Int) {hi : mm_Id → Int → Int} {dh : Int → Int} {nx ns : Int} {Q : mm_V → mm_H → Prop} (hy : 10581 ≤ nx) :
    mm_Wp 212 (bk_212_0.drop 6) [zR (40, 0, 0), vx1, zI x2, zI x3, zI x4, vx5] [zI y0] (mm_z hi dh nx ns) Q =
    mm_Cl 210 [zR (40, 0, 0), zI y0, zI x2] (mm_z hi dh nx ns) (fun r h3 => mm_Wp 212 (bk_212_0.drop 11) [zR (40, 0, 0), vx1, zI x2, zI x3, zI x4, zI y0] (mm_push r []) h3 Q) :=
  (wp_6 (l2 := [zR (40, 0, 0), vx1, zI x2, zI x3, zI x4, zI y0]) rfl).trans ((wp_5_0).trans ((wp_3_5).trans ((wp_3_2).trans ((wp_v3 mm_n_210 (mm_leq mm_m_210 (mm_lb rfl)) (mm_lb rfl) (mm_o40 hy)).trans rfl))))
theorem r_212_0_11 (vx1 : mm_V) (x2 : Int) (x3 : Int) (x4 : Int) (x5 : Int) (y0 : Int) {hi : mm_Id → Int → Int} {dh : Int → Int} {nx ns : Int} {Q : mm_V → mm_H → Prop} (hy : 10581 ≤ nx) :
    mm_Wp 212 (bk_212_0.drop 11) [zR (40, 0, 0), vx1, zI x2, zI x3, zI x4, zI x5] [zI y0] (mm_z hi dh nx ns) Q =
    (if y0 = 0 then Q (zI (-1)) (mm_z hi dh nx ns) else mm_Cl 174 [zL x3, zL 1, zL 1000000] (mm_z hi dh nx ns) (fun r h3 => mm_Wp 212 (bk_212_1.drop 5) [zR (40, 0, 0), vx1, zI x2, zI x3, zI x4, zI x5] (mm_push r []) h3 Q)) :=
  (wp_41).trans (mm_ic ((wp_1).trans (wp_90)) (mm_kb bq_212_1 ((wp_3_3).trans ((wp_31).trans ((wp_2).trans ((wp_2).trans ((wp_s3 mm_n_174 (mm_leq mm_m_174 (mm_lb rfl)) (mm_lb rfl)).trans rfl)))))))
theorem r_212_1_5 (vx1 : mm_V) (x2 : Int) (x3 : Int) (x4 : Int) (x5 : Int) (y0 : Int) {hi : mm_Id → Int → Int} {dh : Int → Int} {nx ns : Int} {Q : mm_V → mm_H → Prop} (hy : 10581 ≤ nx) :
    mm_Wp 212 (bk_212_1.drop 5) [zR (40, 0, 0), vx1, zI x2, zI x3, zI x4, zI x5] [zI y0] (mm_z hi dh nx ns) Q =
    (if y0 = 0 then mm_Wp 212 (mm_blk 212 2) [zR (40, 0, 0), vx1, zI x2, zI x3, zI x4, zI x5] [] (mm_z hi dh nx ns) Q else mm_Cl 174 [zL x4, zL 1, zL 2] (mm_z hi dh nx ns) (fun r h3 => mm_Wp 212 (bk_212_1.drop 11) [zR (40, 0, 0), vx1, zI x2, zI x3, zI x4, zI x5] (mm_push r []) h3 Q)) :=
  (wp_40).trans (mm_ic (rfl) ((wp_3_4).trans ((wp_31).trans ((wp_2).trans ((wp_2).trans ((wp_s3 mm_n_174 (mm_leq mm_m_174 (mm_lb rfl)) (mm_lb rfl)).trans rfl))))))
theorem r_212_2 (vx0 : mm_V) (vx1 : mm_V) (vx2 : mm_V) (vx3 : mm_V) (vx4 : mm_V) (vx5 : mm_V) {hi : mm_Id → Int → Int} {dh : Int → Int} {nx ns : Int} {Q : mm_V → mm_H → Prop} (hy : 10581 ≤ nx) :
    mm_Wp 212 (mm_blk 212 2) [vx0, vx1, vx2, vx3, vx4, vx5] [] (mm_z hi dh nx ns) Q =
    Q (zI (-2)) (mm_z hi dh nx ns) :=
  mm_kb bq_212_2 ((wp_1).trans (wp_90))
theorem r_212_1_11 (vx1 : mm_V) (x2 : Int) (x3 : Int) (x4 : Int) (x5 : Int) (y0 : Int) {hi : mm_Id → Int → Int} {dh : Int → Int} {nx ns : Int} {Q : mm_V → mm_H → Prop} (hy : 10581 ≤ nx) :
    mm_Wp 212 (bk_212_1.drop 11) [zR (40, 0, 0), vx1, zI x2, zI x3, zI x4, zI x5] [zI y0] (mm_z hi dh nx ns) Q =
    (if y0 = 0 then mm_Wp 212 (mm_blk 212 2) [zR (40, 0, 0), vx1, zI x2, zI x3, zI x4, zI x5] [] (mm_z hi dh nx ns) Q else mm_Cl 213 [zR (40, 0, 0), zI x5, zI x2, zI x3, zI x4, zI 0] (mm_z hi dh nx ns) (fun r h3 => mm_Wp 212 (bk_212_3.drop 7) [zR (40, 0, 0), vx1, zI x2, zI x3, zI x4, zI x5] (mm_push r []) h3 Q)) :=
  (wp_41).trans (mm_ic ((wp_0).trans (rfl)) (mm_kb bq_212_3 ((wp_5_0).trans ((wp_3_5).trans ((wp_3_2).trans ((wp_3_3).trans ((wp_3_4).trans ((wp_1).trans ((wp_v6 mm_n_213 (mm_leq mm_m_213 (mm_lb rfl)) (mm_lb rfl) (mm_o40 hy)).trans rfl)))))))))
theorem r_212_3_7 (vx0 : mm_V) (vx1 : mm_V) (vx2 : mm_V) (vx3 : mm_V) (vx4 : mm_V) (vx5 : mm_V) (y0 : Int) {hi : mm_Id → Int → Int} {dh : Int → Int} {nx ns : Int} {Q : mm_V → mm_H → Prop} (hy : 10581 ≤ nx) :
    mm_Wp 212 (bk_212_3.drop 7) [vx0, vx1, vx2, vx3, vx4, vx5] [zI y0] (mm_z hi dh nx ns) Q =
    Q (zI y0) (mm_z hi dh nx ns) :=
  wp_90
/-- PoolHouseModel.madeNode(IIIIZ)I -/
theorem bq_213_0 : mm_blk 213 0 = bk_213_0 := by decide +kernel
theorem bq_213_1 : mm_blk 213 1 = bk_213_1 := by decide +kernel
theorem bq_213_2 : mm_blk 213 2 = bk_213_2 := by decide +kernel
theorem bq_213_3 : mm_blk 213 3 = bk_213_3 := by decide +kernel
theorem bq_213_4 : mm_blk 213 4 = bk_213_4 := by decide +kernel
theorem bq_213_5 : mm_blk 213 5 = bk_213_5 := by decide +kernel
theorem bq_213_6 : mm_blk 213 6 = bk_213_6 := by decide +kernel
theorem bq_213_7 : mm_blk 213 7 = bk_213_7 := by decide +kernel
theorem bq_213_8 : mm_blk 213 8 = bk_213_8 := by decide +kernel
theorem bq_213_9 : mm_blk 213 9 = bk_213_9 := by decide +kernel
theorem bq_213_10 : mm_blk 213 10 = bk_213_10 := by decide +kernel
theorem r_213_e (x1 : Int) (x2 : Int) (x3 : Int) (x4 : Int) (x5 : Int) {hi : mm_Id → Int → Int} {dh : Int → Int} {nx ns : Int} {Q : mm_V → mm_H → Prop} (hy : 10581 ≤ nx) :
    mm_Cl 213 [zR (40, 0, 0), zI x1, zI x2, zI x3, zI x4, zI x5] (mm_z hi dh nx ns) Q =
    (if x1 < 5 then mm_Cl 211 [zR (40, 0, 0), zI x1, zI x2] (mm_z hi dh nx ns) (fun r h3 => mm_Wp 213 (bk_213_0.drop 7) [zR (40, 0, 0), zI x1, zI x2, zI x3, zI x4, zI x5, zU, zU, zU] (mm_push r []) h3 Q) else mm_Wp 213 (mm_blk 213 1) [zR (40, 0, 0), zI x1, zI x2, zI x3, zI x4, zI x5, zU, zU, zU] [] (mm_z hi dh nx ns) Q) :=
  mm_ce (l2 := [zR (40, 0, 0), zI x1, zI x2, zI x3, zI x4, zI x5, zU, zU, zU]) rfl (mm_kb bq_213_0 ((wp_3_1).trans ((wp_1).trans ((wp_49).trans (mm_ic ((wp_5_0).trans ((wp_3_1).trans ((wp_3_2).trans ((wp_v3 mm_n_211 (mm_leq mm_m_211 (mm_lb rfl)) (mm_lb rfl) (mm_o40 hy)).trans rfl)))) (rfl))))))
theorem r_213_1 (vx0 : mm_V) (vx1 : mm_V) (vx2 : mm_V) (vx3 : mm_V) (vx4 : mm_V) (vx5 : mm_V) (vx6 : mm_V) (vx7 : mm_V) (vx8 : mm_V) {hi : mm_Id → Int → Int} {dh : Int → Int} {nx ns : Int} {Q : mm_V → mm_H → Prop} (hy : 10581 ≤ nx) :
    mm_Wp 213 (mm_blk 213 1) [vx0, vx1, vx2, vx3, vx4, vx5, vx6, vx7, vx8] [] (mm_z hi dh nx ns) Q =
    Q (zI (-3)) (mm_z hi dh nx ns) :=
  mm_kb bq_213_1 ((wp_1).trans (wp_90))
theorem r_213_0_7 (x1 : Int) (x2 : Int) (x3 : Int) (x4 : Int) (x5 : Int) (vx6 : mm_V) (vx7 : mm_V) (vx8 : mm_V) (y0 : Int) {hi : mm_Id → Int → Int} {dh : Int → Int} {nx ns : Int} {Q : mm_V → mm_H → Prop} (hy : 10581 ≤ nx) :
    mm_Wp 213 (bk_213_0.drop 7) [zR (40, 0, 0), zI x1, zI x2, zI x3, zI x4, zI x5, vx6, vx7, vx8] [zI y0] (mm_z hi dh nx ns) Q =
    (if y0 = 0 then mm_Wp 213 (mm_blk 213 1) [zR (40, 0, 0), zI x1, zI x2, zI x3, zI x4, zI x5, vx6, vx7, vx8] [] (mm_z hi dh nx ns) Q else mm_Cl 204 [zR (40, 0, 0), zI x1, zI x2] (mm_z hi dh nx ns) (fun r h3 => mm_Wp 213 (bk_213_2.drop 4) [zR (40, 0, 0), zI x1, zI x2, zI x3, zI x4, zI x5, vx6, vx7, vx8] (mm_push r []) h3 Q)) :=
  (wp_41).trans (mm_ic ((wp_0).trans (rfl)) (mm_kb bq_213_2 ((wp_5_0).trans ((wp_3_1).trans ((wp_3_2).trans ((wp_v3 mm_n_204 (mm_leq mm_m_204 (mm_lb rfl)) (mm_lb rfl) (mm_o40 hy)).trans rfl))))))
theorem r_213_2_4 (x1 : Int) (x2 : Int) (x3 : Int) (x4 : Int) (x5 : Int) (vx6 : mm_V) (vx7 : mm_V) (vx8 : mm_V) (y0 : Int) {hi : mm_Id → Int → Int} {dh : Int → Int} {nx ns : Int} {Q : mm_V → mm_H → Prop} (hy : 10581 ≤ nx) :
    mm_Wp 213 (bk_213_2.drop 4) [zR (40, 0, 0), zI x1, zI x2, zI x3, zI x4, zI x5, vx6, vx7, vx8] [zI y0] (mm_z hi dh nx ns) Q =
    (if y0 = 0 then Q (zI (-5)) (mm_z hi dh nx ns) else mm_Cl 184 [zR (40, 0, 0), zI x1, zI x2, zI x3] (mm_z hi dh nx ns) (fun r h3 => mm_Wp 213 (bk_213_3.drop 5) [zR (40, 0, 0), zI x1, zI x2, zI x3, zI x4, zI x5, vx6, vx7, vx8] (mm_push r []) h3 Q)) :=
  (wp_41).trans (mm_ic ((wp_1).trans (wp_90)) (mm_kb bq_213_3 ((wp_5_0).trans ((wp_3_1).trans ((wp_3_2).trans ((wp_3_3).trans ((wp_v4 mm_n_184 (mm_leq mm_m_184 (mm_lb rfl)) (mm_lb rfl) (mm_o40 hy)).trans rfl)))))))
theorem r_213_3_5 (x1 : Int) (x2 : Int) (x3 : Int) (x4 : Int) (x5 : Int) (vx6 : mm_V) (vx7 : mm_V) (vx8 : mm_V) (y0 : Int) {hi : mm_Id → Int → Int} {dh : Int → Int} {nx ns : Int} {Q : mm_V → mm_H → Prop} (hy : 10581 ≤ nx) :
    mm_Wp 213 (bk_213_3.drop 5) [zR (40, 0, 0), zI x1, zI x2, zI x3, zI x4, zI x5, vx6, vx7, vx8] [zI y0] (mm_z hi dh nx ns) Q =
    (if y0 < 0 then mm_Wp 213 (mm_blk 213 5) [zR (40, 0, 0), zI x1, zI x2, zI x3, zI x4, zI x5, zI 1, vx7, vx8] [] (mm_z hi dh nx ns) Q else Q (zI (-3)) (mm_z hi dh nx ns)) :=
  (wp_42).trans (mm_ic (mm_kb bq_213_4 ((wp_1).trans ((wp_6 (l2 := [zR (40, 0, 0), zI x1, zI x2, zI x3, zI x4, zI x5, zI 1, vx7, vx8]) rfl).trans ((wp_0).trans (rfl))))) ((wp_1).trans (wp_90)))
theorem r_213_5 (x1 : Int) (x2 : Int) (x3 : Int) (x4 : Int) (x5 : Int) (x6 : Int) (vx7 : mm_V) (vx8 : mm_V) {hi : mm_Id → Int → Int} {dh : Int → Int} {nx ns : Int} {Q : mm_V → mm_H → Prop} (hy : 10581 ≤ nx) :
    mm_Wp 213 (mm_blk 213 5) [zR (40, 0, 0), zI x1, zI x2, zI x3, zI x4, zI x5, zI x6, vx7, vx8] [] (mm_z hi dh nx ns) Q =
    (if 36 < x6 then mm_Wp 213 (mm_blk 213 6) [zR (40, 0, 0), zI x1, zI x2, zI x3, zI x4, zI x5, zI x6, vx7, vx8] [] (mm_z hi dh nx ns) Q else mm_Cl 175 [zI x1, zI x6] (mm_z hi dh nx ns) (fun r h3 => mm_Wp 213 (bk_213_5.drop 8) [zR (40, 0, 0), zI x1, zI x2, zI x3, zI x4, zI x5, zI x6, vx7, vx8] (mm_push r [zR (41, 0, 0)]) h3 Q)) :=
  mm_kb bq_213_5 ((wp_3_6).trans ((wp_1).trans ((wp_50).trans (mm_ic (rfl) ((wp_5_0).trans ((wp_62 (by decide) (mm_o40 hy) (mm_r40_2 hy)).trans ((wp_3_1).trans ((wp_3_6).trans ((wp_s2 mm_n_175 (mm_leq mm_m_175 (mm_lb rfl)) (mm_lb rfl)).trans rfl)))))))))
theorem r_213_6 (x1 : Int) (x2 : Int) (x3 : Int) (x4 : Int) (x5 : Int) (x6 : Int) (vx7 : mm_V) (vx8 : mm_V) {hi : mm_Id → Int → Int} {dh : Int → Int} {nx ns : Int} {Q : mm_V → mm_H → Prop} (hy : 10581 ≤ nx) :
    mm_Wp 213 (mm_blk 213 6) [zR (40, 0, 0), zI x1, zI x2, zI x3, zI x4, zI x5, zI x6, vx7, vx8] [] (mm_z hi dh nx ns) Q =
    mm_Cl 175 [zI x1, zI x2] (mm_z hi dh nx ns) (fun r h3 => mm_Wp 213 (bk_213_6.drop 5) [zR (40, 0, 0), zI x1, zI x2, zI x3, zI x4, zI x5, zI x6, vx7, vx8] (mm_push r [zR (44, 0, 0)]) h3 Q) :=
  mm_kb bq_213_6 ((wp_5_0).trans ((wp_62 (by decide) (mm_o40 hy) (mm_r40_5 hy)).trans ((wp_3_1).trans ((wp_3_2).trans ((wp_s2 mm_n_175 (mm_leq mm_m_175 (mm_lb rfl)) (mm_lb rfl)).trans rfl)))))
theorem r_213_5_8 (x1 : Int) (x2 : Int) (x3 : Int) (x4 : Int) (x5 : Int) (x6 : Int) (vx7 : mm_V) (vx8 : mm_V) (y0 : Int) {hi : mm_Id → Int → Int} {dh : Int → Int} {nx ns : Int} {Q : mm_V → mm_H → Prop} (hy : 10581 ≤ nx) :
    mm_Wp 213 (bk_213_5.drop 8) [zR (40, 0, 0), zI x1, zI x2, zI x3, zI x4, zI x5, zI x6, vx7, vx8] [zI y0, zR (41, 0, 0)] (mm_z hi dh nx ns) Q =
    ((0 ≤ y0 ∧ y0 < 1044) ∧ (if 0 < (hi (41, 0, 0) y0) then mm_Wp 213 (mm_blk 213 5) [zR (40, 0, 0), zI x1, zI x2, zI x3, zI x4, zI x5, zI (mm_w (x6 + 1)), vx7, vx8] [] (mm_z hi dh nx ns) Q else mm_Wp 213 (mm_blk 213 6) [zR (40, 0, 0), zI x1, zI x2, zI x3, zI x4, zI x5, zI x6, vx7, vx8] [] (mm_z hi dh nx ns) Q)) :=
  (wp_70 (mm_q41 hy)).trans (mm_ae ((wp_45).trans (mm_ic ((wp_9 (l2 := [zR (40, 0, 0), zI x1, zI x2, zI x3, zI x4, zI x5, zI (mm_w (x6 + 1)), vx7, vx8]) rfl rfl).trans ((wp_56).trans (rfl))) (rfl))))
theorem r_213_6_5 (x1 : Int) (x2 : Int) (x3 : Int) (x4 : Int) (x5 : Int) (x6 : Int) (vx7 : mm_V) (vx8 : mm_V) (y0 : Int) {hi : mm_Id → Int → Int} {dh : Int → Int} {nx ns : Int} {Q : mm_V → mm_H → Prop} (hy : 10581 ≤ nx) :
    mm_Wp 213 (bk_213_6.drop 5) [zR (40, 0, 0), zI x1, zI x2, zI x3, zI x4, zI x5, zI x6, vx7, vx8] [zI y0, zR (44, 0, 0)] (mm_z hi dh nx ns) Q =
    ((0 ≤ y0 ∧ y0 < 1044) ∧ (if (hi (44, 0, 0) y0) = 24 then mm_Wp 213 (mm_blk 213 7) [zR (40, 0, 0), zI x1, zI x2, zI x3, zI x4, zI x5, zI x6, vx7, vx8] [] (mm_z hi dh nx ns) Q else (if 36 < x6 then mm_Wp 213 (mm_blk 213 7) [zR (40, 0, 0), zI x1, zI x2, zI x3, zI x4, zI x5, zI x6, vx7, vx8] [] (mm_z hi dh nx ns) Q else mm_Cl 175 [zI x1, zI x6] (mm_z hi dh nx ns) (fun r h3 => mm_Wp 213 (bk_213_8.drop 3) [zR (40, 0, 0), zI x1, zI x2, zI x3, zI x4, zI x5, zI x6, vx7, vx8] (mm_push r []) h3 Q)))) :=
  (wp_70 (mm_q44 hy)).trans (mm_ae ((wp_1).trans ((wp_46).trans (mm_ic (rfl) ((wp_3_6).trans ((wp_1).trans ((wp_51).trans (mm_ic ((wp_0).trans (rfl)) (mm_kb bq_213_8 ((wp_3_1).trans ((wp_3_6).trans ((wp_s2 mm_n_175 (mm_leq mm_m_175 (mm_lb rfl)) (mm_lb rfl)).trans rfl))))))))))))
theorem r_213_7 (vx0 : mm_V) (vx1 : mm_V) (vx2 : mm_V) (vx3 : mm_V) (vx4 : mm_V) (vx5 : mm_V) (vx6 : mm_V) (vx7 : mm_V) (vx8 : mm_V) {hi : mm_Id → Int → Int} {dh : Int → Int} {nx ns : Int} {Q : mm_V → mm_H → Prop} (hy : 10581 ≤ nx) :
    mm_Wp 213 (mm_blk 213 7) [vx0, vx1, vx2, vx3, vx4, vx5, vx6, vx7, vx8] [] (mm_z hi dh nx ns) Q =
    Q (zI (-4)) (mm_z hi dh nx ns) :=
  mm_kb bq_213_7 ((wp_1).trans (wp_90))
theorem r_213_8_3 (x1 : Int) (x2 : Int) (x3 : Int) (x4 : Int) (x5 : Int) (x6 : Int) (vx7 : mm_V) (vx8 : mm_V) (y0 : Int) {hi : mm_Id → Int → Int} {dh : Int → Int} {nx ns : Int} {Q : mm_V → mm_H → Prop} (hy : 10581 ≤ nx) :
    mm_Wp 213 (bk_213_8.drop 3) [zR (40, 0, 0), zI x1, zI x2, zI x3, zI x4, zI x5, zI x6, vx7, vx8] [zI y0] (mm_z hi dh nx ns) Q =
    mm_Cl 180 [zR (40, 0, 0), zI y0] (mm_z hi dh nx ns) (fun r h3 => mm_Wp 213 (bk_213_8.drop 7) [zR (40, 0, 0), zI x1, zI x2, zI x3, zI x4, zI x5, zI x6, zI y0, vx8] (mm_push r []) h3 Q) :=
  (wp_6 (l2 := [zR (40, 0, 0), zI x1, zI x2, zI x3, zI x4, zI x5, zI x6, zI y0, vx8]) rfl).trans ((wp_5_0).trans ((wp_3_7).trans ((wp_v2 mm_n_180 (mm_leq mm_m_180 (mm_lb rfl)) (mm_lb rfl) (mm_o40 hy)).trans rfl)))
theorem r_213_8_7 (x1 : Int) (x2 : Int) (x3 : Int) (x4 : Int) (x5 : Int) (x6 : Int) (x7 : Int) (vx8 : mm_V) {hi : mm_Id → Int → Int} {dh : Int → Int} {nx ns : Int} {Q : mm_V → mm_H → Prop} (hy : 10581 ≤ nx) :
    mm_Wp 213 (bk_213_8.drop 7) [zR (40, 0, 0), zI x1, zI x2, zI x3, zI x4, zI x5, zI x6, zI x7, vx8] [] (mm_z hi dh nx ns) Q =
    ((0 ≤ x7 ∧ x7 < 1044) ∧ ((0 ≤ x7 ∧ x7 < 1044) ∧ ((0 ≤ x7 ∧ x7 < 1044) ∧ (((x5 = 0 ∨ x5 = 1) ∧ 0 ≤ x7 ∧ x7 < 1044) ∧ (if x4 = 3 then ((0 ≤ x7 ∧ x7 < 1044) ∧ mm_Wp 213 (mm_blk 213 9) [zR (40, 0, 0), zI x1, zI x2, zI x3, zI x4, zI x5, zI x6, zI x7, zI 0] [] (mm_z (mm_up (mm_up (mm_up (mm_up (mm_up hi (41, 0, 0) x7 x4) (47, 0, 0) x7 ((mm_up hi (41, 0, 0) x7 x4) (40, 0, 0) 29)) (48, 0, 0) x7 61) (53, 0, 0) x7 x5) (42, 0, 0) x7 ((mm_up (mm_up (mm_up (mm_up hi (41, 0, 0) x7 x4) (47, 0, 0) x7 ((mm_up hi (41, 0, 0) x7 x4) (40, 0, 0) 29)) (48, 0, 0) x7 61) (53, 0, 0) x7 x5) (40, 0, 0) 30)) dh nx ns) Q) else mm_Wp 213 (mm_blk 213 10) [zR (40, 0, 0), zI x1, zI x2, zI x3, zI x4, zI x5, zI x6, zI x7, vx8] [] (mm_z (mm_up (mm_up (mm_up (mm_up hi (41, 0, 0) x7 x4) (47, 0, 0) x7 ((mm_up hi (41, 0, 0) x7 x4) (40, 0, 0) 29)) (48, 0, 0) x7 61) (53, 0, 0) x7 x5) dh nx ns) Q))))) :=
  (wp_5_0).trans ((wp_62 (by decide) (mm_o40 hy) (mm_r40_2 hy)).trans ((wp_3_7).trans ((wp_3_4).trans ((wp_74 (mm_q41 hy)).trans (mm_ae ((wp_5_0).trans ((wp_62 (by decide) (mm_o40 hy) (mm_r40_8 hy)).trans ((wp_3_7).trans ((wp_5_0).trans ((wp_60 (by decide) (mm_o40 hy)).trans ((wp_74 (mm_q47 hy)).trans (mm_ae ((wp_5_0).trans ((wp_62 (by decide) (mm_o40 hy) (mm_r40_9 hy)).trans ((wp_3_7).trans ((wp_1).trans ((wp_74 (mm_q48 hy)).trans (mm_ae ((wp_5_0).trans ((wp_62 (by decide) (mm_o40 hy) (mm_r40_14 hy)).trans ((wp_3_7).trans ((wp_3_5).trans ((wp_75zv (mm_q53 hy)).trans (mm_ae ((wp_3_4).trans ((wp_1).trans ((wp_47).trans (mm_ic ((wp_5_0).trans ((wp_62 (by decide) (mm_o40 hy) (mm_r40_3 hy)).trans ((wp_3_7).trans ((wp_5_0).trans ((wp_60 (by decide) (mm_o40 hy)).trans ((wp_74 (mm_q42 hy)).trans (mm_ae ((wp_1).trans ((wp_6 (l2 := [zR (40, 0, 0), zI x1, zI x2, zI x3, zI x4, zI x5, zI x6, zI x7, zI 0]) rfl).trans ((wp_0).trans (rfl))))))))))) (rfl)))))))))))))))))))))))))))))
theorem r_213_10 (x1 : Int) (x2 : Int) (x3 : Int) (vx4 : mm_V) (vx5 : mm_V) (x6 : Int) (vx7 : mm_V) (vx8 : mm_V) {hi : mm_Id → Int → Int} {dh : Int → Int} {nx ns : Int} {Q : mm_V → mm_H → Prop} (hy : 10581 ≤ nx) :
    mm_Wp 213 (mm_blk 213 10) [zR (40, 0, 0), zI x1, zI x2, zI x3, vx4, vx5, zI x6, vx7, vx8] [] (mm_z hi dh nx ns) Q =
    mm_Cl 186 [zR (40, 0, 0), zI x1, zI x2, zI x3, zI x6] (mm_z hi dh nx ns) (fun r h3 => mm_Wp 213 (bk_213_10.drop 6) [zR (40, 0, 0), zI x1, zI x2, zI x3, vx4, vx5, zI x6, vx7, vx8] (mm_push r []) h3 Q) :=
  mm_kb bq_213_10 ((wp_5_0).trans ((wp_3_1).trans ((wp_3_2).trans ((wp_3_3).trans ((wp_3_6).trans ((wp_v5 mm_n_186 (mm_leq mm_m_186 (mm_lb rfl)) (mm_lb rfl) (mm_o40 hy)).trans rfl))))))
theorem r_213_9 (x1 : Int) (x2 : Int) (x3 : Int) (vx4 : mm_V) (vx5 : mm_V) (x6 : Int) (x7 : Int) (x8 : Int) {hi : mm_Id → Int → Int} {dh : Int → Int} {nx ns : Int} {Q : mm_V → mm_H → Prop} (hy : 10581 ≤ nx) :
    mm_Wp 213 (mm_blk 213 9) [zR (40, 0, 0), zI x1, zI x2, zI x3, vx4, vx5, zI x6, zI x7, zI x8] [] (mm_z hi dh nx ns) Q =
    (if x8 < (hi (40, 0, 0) 30) then ((0 ≤ x8 ∧ x8 < 8) ∧ ((0 ≤ (mm_w ((mm_w (8 * x7)) + x8)) ∧ (mm_w ((mm_w (8 * x7)) + x8)) < 8352) ∧ mm_Wp 213 (mm_blk 213 9) [zR (40, 0, 0), zI x1, zI x2, zI x3, vx4, vx5, zI x6, zI x7, zI (mm_w (x8 + 1))] [] (mm_z (mm_up hi (52, 0, 0) (mm_w ((mm_w (8 * x7)) + x8)) (hi (65, 0, 0) x8)) dh nx ns) Q)) else mm_Wp 213 (mm_blk 213 10) [zR (40, 0, 0), zI x1, zI x2, zI x3, vx4, vx5, zI x6, zI x7, zI x8] [] (mm_z hi dh nx ns) Q) :=
  mm_kb bq_213_9 ((wp_3_8).trans ((wp_5_0).trans ((wp_60 (by decide) (mm_o40 hy)).trans ((wp_49).trans (mm_ic ((wp_5_0).trans ((wp_62 (by decide) (mm_o40 hy) (mm_r40_13 hy)).trans ((wp_1).trans ((wp_3_7).trans ((wp_12).trans ((wp_3_8).trans ((wp_10).trans ((wp_5_0).trans ((wp_62 (by decide) (mm_o40 hy) (mm_r40_31 hy)).trans ((wp_3_8).trans ((wp_70 (mm_q65 hy)).trans (mm_ae ((wp_74 (mm_q52 hy)).trans (mm_ae ((wp_9 (l2 := [zR (40, 0, 0), zI x1, zI x2, zI x3, vx4, vx5, zI x6, zI x7, zI (mm_w (x8 + 1))]) rfl rfl).trans ((wp_56).trans (rfl))))))))))))))))) (rfl))))))
theorem r_213_10_6 (vx1 : mm_V) (vx2 : mm_V) (vx3 : mm_V) (vx4 : mm_V) (vx5 : mm_V) (x6 : Int) (vx7 : mm_V) (vx8 : mm_V) {hi : mm_Id → Int → Int} {dh : Int → Int} {nx ns : Int} {Q : mm_V → mm_H → Prop} (hy : 10581 ≤ nx) :
    mm_Wp 213 (bk_213_10.drop 6) [zR (40, 0, 0), vx1, vx2, vx3, vx4, vx5, zI x6, vx7, vx8] [] (mm_z hi dh nx ns) Q =
    mm_Cl 209 [zR (40, 0, 0)] (mm_z hi dh nx ns) (fun r h3 => mm_Wp 213 (bk_213_10.drop 8) [zR (40, 0, 0), vx1, vx2, vx3, vx4, vx5, zI x6, vx7, vx8] (mm_push r []) h3 Q) :=
  (wp_5_0).trans ((wp_v1 mm_n_209 (mm_leq mm_m_209 (mm_lb rfl)) (mm_lb rfl) (mm_o40 hy)).trans rfl)
theorem r_213_10_8 (vx0 : mm_V) (vx1 : mm_V) (vx2 : mm_V) (vx3 : mm_V) (vx4 : mm_V) (vx5 : mm_V) (x6 : Int) (vx7 : mm_V) (vx8 : mm_V) {hi : mm_Id → Int → Int} {dh : Int → Int} {nx ns : Int} {Q : mm_V → mm_H → Prop} (hy : 10581 ≤ nx) :
    mm_Wp 213 (bk_213_10.drop 8) [vx0, vx1, vx2, vx3, vx4, vx5, zI x6, vx7, vx8] [] (mm_z hi dh nx ns) Q =
    Q (zI x6) (mm_z hi dh nx ns) :=
  (wp_3_6).trans (wp_90)
/-- PoolHouseModel.find(III)I -/
theorem bq_218_0 : mm_blk 218 0 = bk_218_0 := by decide +kernel
theorem bq_218_1 : mm_blk 218 1 = bk_218_1 := by decide +kernel
theorem bq_218_2 : mm_blk 218 2 = bk_218_2 := by decide +kernel
theorem bq_218_3 : mm_blk 218 3 = bk_218_3 := by decide +kernel
theorem bq_218_4 : mm_blk 218 4 = bk_218_4 := by decide +kernel
theorem bq_218_5 : mm_blk 218 5 = bk_218_5 := by decide +kernel
theorem bq_218_6 : mm_blk 218 6 = bk_218_6 := by decide +kernel
theorem r_218_e (x1 : Int) (x2 : Int) (x3 : Int) {hi : mm_Id → Int → Int} {dh : Int → Int} {nx ns : Int} {Q : mm_V → mm_H → Prop} (hy : 10581 ≤ nx) :
    mm_Cl 218 [zR (40, 0, 0), zI x1, zI x2, zI x3] (mm_z hi dh nx ns) Q =
    mm_Cl 181 [zR (40, 0, 0), zI x1] (mm_z (mm_up hi (40, 0, 0) 0 0) dh nx ns) (fun r h3 => mm_Wp 218 (bk_218_0.drop 6) [zR (40, 0, 0), zI x1, zI x2, zI x3, zU, zU] (mm_push r []) h3 Q) :=
  mm_ce (l2 := [zR (40, 0, 0), zI x1, zI x2, zI x3, zU, zU]) rfl (mm_kb bq_218_0 ((wp_5_0).trans ((wp_1).trans ((wp_63 (mm_o40 hy)).trans ((wp_5_0).trans ((wp_3_1).trans ((wp_v2 mm_n_181 (mm_leq mm_m_181 (mm_lb rfl)) (mm_lb rfl) (mm_o40 hy)).trans rfl)))))))
theorem r_218_0_6 (vx1 : mm_V) (x2 : Int) (x3 : Int) (vx4 : mm_V) (vx5 : mm_V) (y0 : Int) {hi : mm_Id → Int → Int} {dh : Int → Int} {nx ns : Int} {Q : mm_V → mm_H → Prop} (hy : 10581 ≤ nx) :
    mm_Wp 218 (bk_218_0.drop 6) [zR (40, 0, 0), vx1, zI x2, zI x3, vx4, vx5] [zI y0] (mm_z hi dh nx ns) Q =
    mm_Cl 210 [zR (40, 0, 0), zI y0, zI x2] (mm_z hi dh nx ns) (fun r h3 => mm_Wp 218 (bk_218_0.drop 11) [zR (40, 0, 0), vx1, zI x2, zI x3, zI y0, vx5] (mm_push r []) h3 Q) :=
  (wp_6 (l2 := [zR (40, 0, 0), vx1, zI x2, zI x3, zI y0, vx5]) rfl).trans ((wp_5_0).trans ((wp_3_4).trans ((wp_3_2).trans ((wp_v3 mm_n_210 (mm_leq mm_m_210 (mm_lb rfl)) (mm_lb rfl) (mm_o40 hy)).trans rfl))))
theorem r_218_0_11 (vx1 : mm_V) (x2 : Int) (x3 : Int) (x4 : Int) (vx5 : mm_V) (y0 : Int) {hi : mm_Id → Int → Int} {dh : Int → Int} {nx ns : Int} {Q : mm_V → mm_H → Prop} (hy : 10581 ≤ nx) :
    mm_Wp 218 (bk_218_0.drop 11) [zR (40, 0, 0), vx1, zI x2, zI x3, zI x4, vx5] [zI y0] (mm_z hi dh nx ns) Q =
    (if y0 = 0 then Q (zI (-1)) (mm_z hi dh nx ns) else mm_Cl 174 [zL x3, zL 1, zL 1000000] (mm_z hi dh nx ns) (fun r h3 => mm_Wp 218 (bk_218_1.drop 5) [zR (40, 0, 0), vx1, zI x2, zI x3, zI x4, vx5] (mm_push r []) h3 Q)) :=
  (wp_41).trans (mm_ic ((wp_1).trans (wp_90)) (mm_kb bq_218_1 ((wp_3_3).trans ((wp_31).trans ((wp_2).trans ((wp_2).trans ((wp_s3 mm_n_174 (mm_leq mm_m_174 (mm_lb rfl)) (mm_lb rfl)).trans rfl)))))))
theorem r_218_1_5 (vx1 : mm_V) (x2 : Int) (x3 : Int) (x4 : Int) (vx5 : mm_V) (y0 : Int) {hi : mm_Id → Int → Int} {dh : Int → Int} {nx ns : Int} {Q : mm_V → mm_H → Prop} (hy : 10581 ≤ nx) :
    mm_Wp 218 (bk_218_1.drop 5) [zR (40, 0, 0), vx1, zI x2, zI x3, zI x4, vx5] [zI y0] (mm_z hi dh nx ns) Q =
    (if y0 = 0 then Q (zI (-2)) (mm_z hi dh nx ns) else mm_Cl 211 [zR (40, 0, 0), zI x4, zI x2] (mm_z hi dh nx ns) (fun r h3 => mm_Wp 218 (bk_218_2.drop 4) [zR (40, 0, 0), vx1, zI x2, zI x3, zI x4, vx5] (mm_push r []) h3 Q)) :=
  (wp_41).trans (mm_ic ((wp_1).trans (wp_90)) (mm_kb bq_218_2 ((wp_5_0).trans ((wp_3_4).trans ((wp_3_2).trans ((wp_v3 mm_n_211 (mm_leq mm_m_211 (mm_lb rfl)) (mm_lb rfl) (mm_o40 hy)).trans rfl))))))
theorem r_218_2_4 (vx1 : mm_V) (x2 : Int) (x3 : Int) (x4 : Int) (vx5 : mm_V) (y0 : Int) {hi : mm_Id → Int → Int} {dh : Int → Int} {nx ns : Int} {Q : mm_V → mm_H → Prop} (hy : 10581 ≤ nx) :
    mm_Wp 218 (bk_218_2.drop 4) [zR (40, 0, 0), vx1, zI x2, zI x3, zI x4, vx5] [zI y0] (mm_z hi dh nx ns) Q =
    (if y0 = 0 then Q (zI (-3)) (mm_z hi dh nx ns) else mm_Cl 203 [zR (40, 0, 0), zI x4, zI x2, zI 1] (mm_z hi dh nx ns) (fun r h3 => mm_Wp 218 (bk_218_3.drop 5) [zR (40, 0, 0), vx1, zI x2, zI x3, zI x4, vx5] (mm_push r []) h3 Q)) :=
  (wp_41).trans (mm_ic ((wp_1).trans (wp_90)) (mm_kb bq_218_3 ((wp_5_0).trans ((wp_3_4).trans ((wp_3_2).trans ((wp_1).trans ((wp_v4 mm_n_203 (mm_leq mm_m_203 (mm_lb rfl)) (mm_lb rfl) (mm_o40 hy)).trans rfl)))))))
theorem r_218_3_5 (vx1 : mm_V) (x2 : Int) (x3 : Int) (x4 : Int) (vx5 : mm_V) (y0 : Int) {hi : mm_Id → Int → Int} {dh : Int → Int} {nx ns : Int} {Q : mm_V → mm_H → Prop} (hy : 10581 ≤ nx) :
    mm_Wp 218 (bk_218_3.drop 5) [zR (40, 0, 0), vx1, zI x2, zI x3, zI x4, vx5] [zI y0] (mm_z hi dh nx ns) Q =
    (if y0 = 0 then Q (zI (-5)) (mm_z hi dh nx ns) else mm_Cl 184 [zR (40, 0, 0), zI x4, zI x2, zI x3] (mm_z hi dh nx ns) (fun r h3 => mm_Wp 218 (bk_218_4.drop 5) [zR (40, 0, 0), vx1, zI x2, zI x3, zI x4, vx5] (mm_push r []) h3 Q)) :=
  (wp_41).trans (mm_ic ((wp_1).trans (wp_90)) (mm_kb bq_218_4 ((wp_5_0).trans ((wp_3_4).trans ((wp_3_2).trans ((wp_3_3).trans ((wp_v4 mm_n_184 (mm_leq mm_m_184 (mm_lb rfl)) (mm_lb rfl) (mm_o40 hy)).trans rfl)))))))
theorem r_218_4_5 (vx1 : mm_V) (x2 : Int) (vx3 : mm_V) (x4 : Int) (vx5 : mm_V) (y0 : Int) {hi : mm_Id → Int → Int} {dh : Int → Int} {nx ns : Int} {Q : mm_V → mm_H → Prop} (hy : 10581 ≤ nx) :
    mm_Wp 218 (bk_218_4.drop 5) [zR (40, 0, 0), vx1, zI x2, vx3, zI x4, vx5] [zI y0] (mm_z hi dh nx ns) Q =
    (if y0 < 0 then mm_Wp 218 (mm_blk 218 6) [zR (40, 0, 0), vx1, zI x2, vx3, zI x4, zI y0] [zI (-1)] (mm_z hi dh nx ns) Q else mm_Cl 185 [zR (40, 0, 0), zI x4, zI x2, zI y0] (mm_z hi dh nx ns) (fun r h3 => mm_Wp 218 (bk_218_5.drop 5) [zR (40, 0, 0), vx1, zI x2, vx3, zI x4, zI y0] (mm_push r []) h3 Q)) :=
  (wp_6 (l2 := [zR (40, 0, 0), vx1, zI x2, vx3, zI x4, zI y0]) rfl).trans ((wp_3_5).trans ((wp_43).trans (mm_ic ((wp_1).trans ((wp_56).trans (rfl))) (mm_kb bq_218_5 ((wp_5_0).trans ((wp_3_4).trans ((wp_3_2).trans ((wp_3_5).trans ((wp_v4 mm_n_185 (mm_leq mm_m_185 (mm_lb rfl)) (mm_lb rfl) (mm_o40 hy)).trans rfl)))))))))
theorem r_218_5_5 (vx0 : mm_V) (vx1 : mm_V) (vx2 : mm_V) (vx3 : mm_V) (vx4 : mm_V) (vx5 : mm_V) (y0 : Int) {hi : mm_Id → Int → Int} {dh : Int → Int} {nx ns : Int} {Q : mm_V → mm_H → Prop} (hy : 10581 ≤ nx) :
    mm_Wp 218 (bk_218_5.drop 5) [vx0, vx1, vx2, vx3, vx4, vx5] [zI y0] (mm_z hi dh nx ns) Q =
    mm_Wp 218 (mm_blk 218 6) [vx0, vx1, vx2, vx3, vx4, vx5] [zI y0] (mm_z hi dh nx ns) Q :=
  (wp_0).trans (rfl)
theorem r_218_6 (vx0 : mm_V) (vx1 : mm_V) (vx2 : mm_V) (vx3 : mm_V) (vx4 : mm_V) (vx5 : mm_V) (y0 : Int) {hi : mm_Id → Int → Int} {dh : Int → Int} {nx ns : Int} {Q : mm_V → mm_H → Prop} (hy : 10581 ≤ nx) :
    mm_Wp 218 (mm_blk 218 6) [vx0, vx1, vx2, vx3, vx4, vx5] [zI y0] (mm_z hi dh nx ns) Q =
    Q (zI y0) (mm_z hi dh nx ns) :=
  mm_kb bq_218_6 (wp_90)
/-- PoolHouseModel.renewed(IIII)I -/
theorem bq_219_0 : mm_blk 219 0 = bk_219_0 := by decide +kernel
theorem bq_219_1 : mm_blk 219 1 = bk_219_1 := by decide +kernel
theorem bq_219_2 : mm_blk 219 2 = bk_219_2 := by decide +kernel
theorem bq_219_3 : mm_blk 219 3 = bk_219_3 := by decide +kernel
theorem bq_219_4 : mm_blk 219 4 = bk_219_4 := by decide +kernel
theorem r_219_e (x1 : Int) (x2 : Int) (x3 : Int) (x4 : Int) {hi : mm_Id → Int → Int} {dh : Int → Int} {nx ns : Int} {Q : mm_V → mm_H → Prop} (hy : 10581 ≤ nx) :
    mm_Cl 219 [zR (40, 0, 0), zI x1, zI x2, zI x3, zI x4] (mm_z hi dh nx ns) Q =
    mm_Cl 175 [zI x1, zI x2] (mm_z hi dh nx ns) (fun r h3 => mm_Wp 219 (bk_219_0.drop 4) [zR (40, 0, 0), zI x1, zI x2, zI x3, zI x4, zU, zU, zU, zU] (mm_push r [zI 36]) h3 Q) :=
  mm_ce (l2 := [zR (40, 0, 0), zI x1, zI x2, zI x3, zI x4, zU, zU, zU, zU]) rfl (mm_kb bq_219_0 ((wp_1).trans ((wp_3_1).trans ((wp_3_2).trans ((wp_s2 mm_n_175 (mm_leq mm_m_175 (mm_lb rfl)) (mm_lb rfl)).trans rfl)))))
theorem r_219_0_4 (vx1 : mm_V) (vx2 : mm_V) (x3 : Int) (x4 : Int) (vx5 : mm_V) (vx6 : mm_V) (vx7 : mm_V) (vx8 : mm_V) (y0 : Int) (y1 : Int) {hi : mm_Id → Int → Int} {dh : Int → Int} {nx ns : Int} {Q : mm_V → mm_H → Prop} (hy : 10581 ≤ nx) :
    mm_Wp 219 (bk_219_0.drop 4) [zR (40, 0, 0), vx1, vx2, zI x3, zI x4, vx5, vx6, vx7, vx8] [zI y0, zI y1] (mm_z hi dh nx ns) Q =
    ((0 ≤ (mm_w ((mm_w (y1 * y0)) + x3)) ∧ (mm_w ((mm_w (y1 * y0)) + x3)) < 37584) ∧ mm_Cl 196 [zR (40, 0, 0)] (mm_z hi dh nx ns) (fun r h3 => mm_Wp 219 (bk_219_0.drop 15) [zR (40, 0, 0), vx1, vx2, zI x3, zI x4, zI (mm_w ((mm_w (y1 * y0)) + x3)), zI (hi (43, 0, 0) (mm_w ((mm_w (y1 * y0)) + x3))), vx7, vx8] (mm_push r []) h3 Q)) :=
  (wp_12).trans ((wp_3_3).trans ((wp_10).trans ((wp_6 (l2 := [zR (40, 0, 0), vx1, vx2, zI x3, zI x4, zI (mm_w ((mm_w (y1 * y0)) + x3)), vx6, vx7, vx8]) rfl).trans ((wp_5_0).trans ((wp_62 (by decide) (mm_o40 hy) (mm_r40_4 hy)).trans ((wp_3_5).trans ((wp_70 (mm_q43 hy)).trans (mm_ae ((wp_6 (l2 := [zR (40, 0, 0), vx1, vx2, zI x3, zI x4, zI (mm_w ((mm_w (y1 * y0)) + x3)), zI (hi (43, 0, 0) (mm_w ((mm_w (y1 * y0)) + x3))), vx7, vx8]) rfl).trans ((wp_5_0).trans ((wp_v1 mm_n_196 (mm_leq mm_m_196 (mm_lb rfl)) (mm_lb rfl) (mm_o40 hy)).trans rfl)))))))))))
theorem r_219_0_15 (vx1 : mm_V) (vx2 : mm_V) (x3 : Int) (x4 : Int) (x5 : Int) (x6 : Int) (vx7 : mm_V) (vx8 : mm_V) (y0 : Int) {hi : mm_Id → Int → Int} {dh : Int → Int} {nx ns : Int} {Q : mm_V → mm_H → Prop} (hy : 10581 ≤ nx) :
    mm_Wp 219 (bk_219_0.drop 15) [zR (40, 0, 0), vx1, vx2, zI x3, zI x4, zI x5, zI x6, vx7, vx8] [zI y0] (mm_z hi dh nx ns) Q =
    mm_Wp 219 (mm_blk 219 1) [zR (40, 0, 0), vx1, vx2, zI x3, zI x4, zI x5, zI x6, zI y0, zI 0] [] (mm_z hi dh nx ns) Q :=
  (wp_6 (l2 := [zR (40, 0, 0), vx1, vx2, zI x3, zI x4, zI x5, zI x6, zI y0, vx8]) rfl).trans ((wp_1).trans ((wp_6 (l2 := [zR (40, 0, 0), vx1, vx2, zI x3, zI x4, zI x5, zI x6, zI y0, zI 0]) rfl).trans ((wp_0).trans (rfl))))
theorem r_219_1 (vx1 : mm_V) (vx2 : mm_V) (x3 : Int) (x4 : Int) (x5 : Int) (x6 : Int) (x7 : Int) (x8 : Int) {hi : mm_Id → Int → Int} {dh : Int → Int} {nx ns : Int} {Q : mm_V → mm_H → Prop} (hy : 10581 ≤ nx) :
    mm_Wp 219 (mm_blk 219 1) [zR (40, 0, 0), vx1, vx2, zI x3, zI x4, zI x5, zI x6, zI x7, zI x8] [] (mm_z hi dh nx ns) Q =
    (if x8 < 60 then (if 0 < x6 then (if (mm_w ((mm_w (60 * x3)) + x8)) < x4 then ((0 ≤ (mm_w ((mm_w (60 * x6)) + x8)) ∧ (mm_w ((mm_w (60 * x6)) + x8)) < 180060) ∧ mm_Wp 219 (mm_blk 219 3) [zR (40, 0, 0), vx1, vx2, zI x3, zI x4, zI x5, zI x6, zI x7, zI x8] [zI (hi (54, 0, 0) (mm_w ((mm_w (60 * x6)) + x8))), zI (mm_w ((mm_w (60 * x7)) + x8)), zR (54, 0, 0)] (mm_z hi dh nx ns) Q) else mm_Wp 219 (mm_blk 219 3) [zR (40, 0, 0), vx1, vx2, zI x3, zI x4, zI x5, zI x6, zI x7, zI x8] [zI 0, zI (mm_w ((mm_w (60 * x7)) + x8)), zR (54, 0, 0)] (mm_z hi dh nx ns) Q) else mm_Wp 219 (mm_blk 219 4) [zR (40, 0, 0), vx1, vx2, zI x3, zI x4, zI x5, zI x6, zI x7, zI x8] [] (mm_z hi dh nx ns) Q) else mm_Wp 219 (mm_blk 219 4) [zR (40, 0, 0), vx1, vx2, zI x3, zI x4, zI x5, zI x6, zI x7, zI x8] [] (mm_z hi dh nx ns) Q) :=
  mm_kb bq_219_1 ((wp_3_8).trans ((wp_1).trans ((wp_49).trans (mm_ic ((wp_3_6).trans ((wp_45).trans (mm_ic ((wp_5_0).trans ((wp_62 (by decide) (mm_o40 hy) (mm_r40_15 hy)).trans ((wp_1).trans ((wp_3_7).trans ((wp_12).trans ((wp_3_8).trans ((wp_10).trans ((wp_1).trans ((wp_3_3).trans ((wp_12).trans ((wp_3_8).trans ((wp_10).trans ((wp_3_4).trans ((wp_49).trans (mm_ic ((wp_5_0).trans ((wp_62 (by decide) (mm_o40 hy) (mm_r40_15 hy)).trans ((wp_1).trans ((wp_3_6).trans ((wp_12).trans ((wp_3_8).trans ((wp_10).trans ((wp_71 (mm_q54 hy)).trans (mm_ae ((wp_56).trans (rfl))))))))))) (mm_kb bq_219_2 ((wp_1).trans ((wp_0).trans (rfl))))))))))))))))))) (rfl)))) (rfl)))))
theorem r_219_4 (vx1 : mm_V) (vx2 : mm_V) (vx3 : mm_V) (vx4 : mm_V) (x5 : Int) (vx6 : mm_V) (x7 : Int) (vx8 : mm_V) {hi : mm_Id → Int → Int} {dh : Int → Int} {nx ns : Int} {Q : mm_V → mm_H → Prop} (hy : 10581 ≤ nx) :
    mm_Wp 219 (mm_blk 219 4) [zR (40, 0, 0), vx1, vx2, vx3, vx4, zI x5, vx6, zI x7, vx8] [] (mm_z hi dh nx ns) Q =
    ((0 ≤ x5 ∧ x5 < 37584) ∧ Q (zI x7) (mm_z (mm_up hi (43, 0, 0) x5 x7) dh nx ns)) :=
  mm_kb bq_219_4 ((wp_5_0).trans ((wp_62 (by decide) (mm_o40 hy) (mm_r40_4 hy)).trans ((wp_3_5).trans ((wp_3_7).trans ((wp_74 (mm_q43 hy)).trans (mm_ae ((wp_3_7).trans (wp_90))))))))
theorem r_219_3 (vx1 : mm_V) (vx2 : mm_V) (x3 : Int) (x4 : Int) (x5 : Int) (x6 : Int) (x7 : Int) (x8 : Int) (y0 : Int) (y1 : Int) {hi : mm_Id → Int → Int} {dh : Int → Int} {nx ns : Int} {Q : mm_V → mm_H → Prop} (hy : 10581 ≤ nx) :
    mm_Wp 219 (mm_blk 219 3) [zR (40, 0, 0), vx1, vx2, zI x3, zI x4, zI x5, zI x6, zI x7, zI x8] [zI y0, zI y1, zR (54, 0, 0)] (mm_z hi dh nx ns) Q =
    ((0 ≤ y1 ∧ y1 < 180060) ∧ mm_Wp 219 (mm_blk 219 1) [zR (40, 0, 0), vx1, vx2, zI x3, zI x4, zI x5, zI x6, zI x7, zI (mm_w (x8 + 1))] [] (mm_z (mm_up hi (54, 0, 0) y1 (mm_b y0)) dh nx ns) Q) :=
  mm_kb bq_219_3 ((wp_75 (mm_q54 hy)).trans (mm_ae ((wp_9 (l2 := [zR (40, 0, 0), vx1, vx2, zI x3, zI x4, zI x5, zI x6, zI x7, zI (mm_w (x8 + 1))]) rfl rfl).trans ((wp_56).trans (rfl)))))
/-- PoolHouseModel.write(IIIJI)I -/
theorem bq_220_0 : mm_blk 220 0 = bk_220_0 := by decide +kernel
theorem bq_220_1 : mm_blk 220 1 = bk_220_1 := by decide +kernel
theorem bq_220_2 : mm_blk 220 2 = bk_220_2 := by decide +kernel
theorem bq_220_3 : mm_blk 220 3 = bk_220_3 := by decide +kernel
theorem bq_220_4 : mm_blk 220 4 = bk_220_4 := by decide +kernel
theorem bq_220_5 : mm_blk 220 5 = bk_220_5 := by decide +kernel
theorem bq_220_6 : mm_blk 220 6 = bk_220_6 := by decide +kernel
theorem bq_220_7 : mm_blk 220 7 = bk_220_7 := by decide +kernel
theorem bq_220_8 : mm_blk 220 8 = bk_220_8 := by decide +kernel
theorem bq_220_9 : mm_blk 220 9 = bk_220_9 := by decide +kernel
theorem bq_220_10 : mm_blk 220 10 = bk_220_10 := by decide +kernel
theorem bq_220_11 : mm_blk 220 11 = bk_220_11 := by decide +kernel
theorem bq_220_12 : mm_blk 220 12 = bk_220_12 := by decide +kernel
theorem bq_220_13 : mm_blk 220 13 = bk_220_13 := by decide +kernel
theorem bq_220_14 : mm_blk 220 14 = bk_220_14 := by decide +kernel
theorem r_220_e (x1 : Int) (x2 : Int) (x3 : Int) (x4 : Int) (x5 : Int) {hi : mm_Id → Int → Int} {dh : Int → Int} {nx ns : Int} {Q : mm_V → mm_H → Prop} (hy : 10581 ≤ nx) :
    mm_Cl 220 [zR (40, 0, 0), zI x1, zI x2, zI x3, zL x4, zI x5] (mm_z hi dh nx ns) Q =
    mm_Cl 181 [zR (40, 0, 0), zI x1] (mm_z (mm_up hi (40, 0, 0) 0 0) dh nx ns) (fun r h3 => mm_Wp 220 (bk_220_0.drop 6) [zR (40, 0, 0), zI x1, zI x2, zI x3, zL x4, zU, zI x5, zU, zU, zU, zU, zU] (mm_push r []) h3 Q) :=
  mm_ce (l2 := [zR (40, 0, 0), zI x1, zI x2, zI x3, zL x4, zU, zI x5, zU, zU, zU, zU, zU]) rfl (mm_kb bq_220_0 ((wp_5_0).trans ((wp_1).trans ((wp_63 (mm_o40 hy)).trans ((wp_5_0).trans ((wp_3_1).trans ((wp_v2 mm_n_181 (mm_leq mm_m_181 (mm_lb rfl)) (mm_lb rfl) (mm_o40 hy)).trans rfl)))))))
theorem r_220_0_6 (vx1 : mm_V) (x2 : Int) (x3 : Int) (x4 : Int) (x6 : Int) (vx7 : mm_V) (vx8 : mm_V) (vx9 : mm_V) (vx10 : mm_V) (vx11 : mm_V) (y0 : Int) {hi : mm_Id → Int → Int} {dh : Int → Int} {nx ns : Int} {Q : mm_V → mm_H → Prop} (hy : 10581 ≤ nx) :
    mm_Wp 220 (bk_220_0.drop 6) [zR (40, 0, 0), vx1, zI x2, zI x3, zL x4, zU, zI x6, vx7, vx8, vx9, vx10, vx11] [zI y0] (mm_z hi dh nx ns) Q =
    mm_Cl 210 [zR (40, 0, 0), zI y0, zI x2] (mm_z hi dh nx ns) (fun r h3 => mm_Wp 220 (bk_220_0.drop 11) [zR (40, 0, 0), vx1, zI x2, zI x3, zL x4, zU, zI x6, zI y0, vx8, vx9, vx10, vx11] (mm_push r []) h3 Q) :=
  (wp_6 (l2 := [zR (40, 0, 0), vx1, zI x2, zI x3, zL x4, zU, zI x6, zI y0, vx8, vx9, vx10, vx11]) rfl).trans ((wp_5_0).trans ((wp_3_7).trans ((wp_3_2).trans ((wp_v3 mm_n_210 (mm_leq mm_m_210 (mm_lb rfl)) (mm_lb rfl) (mm_o40 hy)).trans rfl))))
theorem r_220_0_11 (vx1 : mm_V) (x2 : Int) (x3 : Int) (x4 : Int) (x6 : Int) (x7 : Int) (vx8 : mm_V) (vx9 : mm_V) (vx10 : mm_V) (vx11 : mm_V) (y0 : Int) {hi : mm_Id → Int → Int} {dh : Int → Int} {nx ns : Int} {Q : mm_V → mm_H → Prop} (hy : 10581 ≤ nx) :
    mm_Wp 220 (bk_220_0.drop 11) [zR (40, 0, 0), vx1, zI x2, zI x3, zL x4, zU, zI x6, zI x7, vx8, vx9, vx10, vx11] [zI y0] (mm_z hi dh nx ns) Q =
    (if y0 = 0 then Q (zI (-1)) (mm_z hi dh nx ns) else mm_Cl 174 [zL x6, zL 1, zL 8] (mm_z hi dh nx ns) (fun r h3 => mm_Wp 220 (bk_220_1.drop 5) [zR (40, 0, 0), vx1, zI x2, zI x3, zL x4, zU, zI x6, zI x7, vx8, vx9, vx10, vx11] (mm_push r []) h3 Q)) :=
  (wp_41).trans (mm_ic ((wp_1).trans (wp_90)) (mm_kb bq_220_1 ((wp_3_6).trans ((wp_31).trans ((wp_2).trans ((wp_2).trans ((wp_s3 mm_n_174 (mm_leq mm_m_174 (mm_lb rfl)) (mm_lb rfl)).trans rfl)))))))
theorem r_220_1_5 (vx1 : mm_V) (x2 : Int) (x3 : Int) (x4 : Int) (x6 : Int) (x7 : Int) (vx8 : mm_V) (vx9 : mm_V) (vx10 : mm_V) (vx11 : mm_V) (y0 : Int) {hi : mm_Id → Int → Int} {dh : Int → Int} {nx ns : Int} {Q : mm_V → mm_H → Prop} (hy : 10581 ≤ nx) :
    mm_Wp 220 (bk_220_1.drop 5) [zR (40, 0, 0), vx1, zI x2, zI x3, zL x4, zU, zI x6, zI x7, vx8, vx9, vx10, vx11] [zI y0] (mm_z hi dh nx ns) Q =
    (if y0 = 0 then mm_Wp 220 (mm_blk 220 2) [zR (40, 0, 0), vx1, zI x2, zI x3, zL x4, zU, zI x6, zI x7, vx8, vx9, vx10, vx11] [] (mm_z hi dh nx ns) Q else (if x3 < 0 then mm_Wp 220 (mm_blk 220 2) [zR (40, 0, 0), vx1, zI x2, zI x3, zL x4, zU, zI x6, zI x7, vx8, vx9, vx10, vx11] [] (mm_z hi dh nx ns) Q else mm_Cl 174 [zL (mm_W (x3 + x6)), zL 1, zL 2160] (mm_z hi dh nx ns) (fun r h3 => mm_Wp 220 (bk_220_1.drop 16) [zR (40, 0, 0), vx1, zI x2, zI x3, zL x4, zU, zI x6, zI x7, vx8, vx9, vx10, vx11] (mm_push r []) h3 Q))) :=
  (wp_40).trans (mm_ic (rfl) ((wp_3_3).trans ((wp_42).trans (mm_ic (rfl) ((wp_3_3).trans ((wp_31).trans ((wp_3_6).trans ((wp_31).trans ((wp_20).trans ((wp_2).trans ((wp_2).trans ((wp_s3 mm_n_174 (mm_leq mm_m_174 (mm_lb rfl)) (mm_lb rfl)).trans rfl))))))))))))
theorem r_220_2 (vx0 : mm_V) (vx1 : mm_V) (vx2 : mm_V) (vx3 : mm_V) (x4 : Int) (vx6 : mm_V) (vx7 : mm_V) (vx8 : mm_V) (vx9 : mm_V) (vx10 : mm_V) (vx11 : mm_V) {hi : mm_Id → Int → Int} {dh : Int → Int} {nx ns : Int} {Q : mm_V → mm_H → Prop} (hy : 10581 ≤ nx) :
    mm_Wp 220 (mm_blk 220 2) [vx0, vx1, vx2, vx3, zL x4, zU, vx6, vx7, vx8, vx9, vx10, vx11] [] (mm_z hi dh nx ns) Q =
    Q (zI (-2)) (mm_z hi dh nx ns) :=
  mm_kb bq_220_2 ((wp_1).trans (wp_90))
theorem r_220_1_16 (vx1 : mm_V) (x2 : Int) (x3 : Int) (x4 : Int) (x6 : Int) (x7 : Int) (vx8 : mm_V) (vx9 : mm_V) (vx10 : mm_V) (vx11 : mm_V) (y0 : Int) {hi : mm_Id → Int → Int} {dh : Int → Int} {nx ns : Int} {Q : mm_V → mm_H → Prop} (hy : 10581 ≤ nx) :
    mm_Wp 220 (bk_220_1.drop 16) [zR (40, 0, 0), vx1, zI x2, zI x3, zL x4, zU, zI x6, zI x7, vx8, vx9, vx10, vx11] [zI y0] (mm_z hi dh nx ns) Q =
    (if y0 = 0 then mm_Wp 220 (mm_blk 220 2) [zR (40, 0, 0), vx1, zI x2, zI x3, zL x4, zU, zI x6, zI x7, vx8, vx9, vx10, vx11] [] (mm_z hi dh nx ns) Q else (if x7 < 5 then mm_Cl 177 [zR (40, 0, 0), zI x7, zI x2] (mm_z hi dh nx ns) (fun r h3 => mm_Wp 220 (bk_220_3.drop 7) [zR (40, 0, 0), vx1, zI x2, zI x3, zL x4, zU, zI x6, zI x7, vx8, vx9, vx10, vx11] (mm_push r []) h3 Q) else mm_Wp 220 (mm_blk 220 4) [zR (40, 0, 0), vx1, zI x2, zI x3, zL x4, zU, zI x6, zI x7, vx8, vx9, vx10, vx11] [] (mm_z hi dh nx ns) Q)) :=
  (wp_41).trans (mm_ic ((wp_0).trans (rfl)) (mm_kb bq_220_3 ((wp_3_7).trans ((wp_1).trans ((wp_49).trans (mm_ic ((wp_5_0).trans ((wp_3_7).trans ((wp_3_2).trans ((wp_v3 mm_n_177 (mm_leq mm_m_177 (mm_lb rfl)) (mm_lb rfl) (mm_o40 hy)).trans rfl)))) (rfl)))))))
theorem r_220_4 (vx0 : mm_V) (vx1 : mm_V) (vx2 : mm_V) (vx3 : mm_V) (x4 : Int) (vx6 : mm_V) (vx7 : mm_V) (vx8 : mm_V) (vx9 : mm_V) (vx10 : mm_V) (vx11 : mm_V) {hi : mm_Id → Int → Int} {dh : Int → Int} {nx ns : Int} {Q : mm_V → mm_H → Prop} (hy : 10581 ≤ nx) :
    mm_Wp 220 (mm_blk 220 4) [vx0, vx1, vx2, vx3, zL x4, zU, vx6, vx7, vx8, vx9, vx10, vx11] [] (mm_z hi dh nx ns) Q =
    Q (zI (-3)) (mm_z hi dh nx ns) :=
  mm_kb bq_220_4 ((wp_1).trans (wp_90))
theorem r_220_3_7 (vx1 : mm_V) (x2 : Int) (x3 : Int) (x4 : Int) (x6 : Int) (x7 : Int) (vx8 : mm_V) (vx9 : mm_V) (vx10 : mm_V) (vx11 : mm_V) (y0 : Int) {hi : mm_Id → Int → Int} {dh : Int → Int} {nx ns : Int} {Q : mm_V → mm_H → Prop} (hy : 10581 ≤ nx) :
    mm_Wp 220 (bk_220_3.drop 7) [zR (40, 0, 0), vx1, zI x2, zI x3, zL x4, zU, zI x6, zI x7, vx8, vx9, vx10, vx11] [zI y0] (mm_z hi dh nx ns) Q =
    (if y0 = 0 then mm_Wp 220 (mm_blk 220 4) [zR (40, 0, 0), vx1, zI x2, zI x3, zL x4, zU, zI x6, zI x7, vx8, vx9, vx10, vx11] [] (mm_z hi dh nx ns) Q else mm_Cl 203 [zR (40, 0, 0), zI x7, zI x2, zI 2] (mm_z hi dh nx ns) (fun r h3 => mm_Wp 220 (bk_220_5.drop 5) [zR (40, 0, 0), vx1, zI x2, zI x3, zL x4, zU, zI x6, zI x7, vx8, vx9, vx10, vx11] (mm_push r []) h3 Q)) :=
  (wp_41).trans (mm_ic ((wp_0).trans (rfl)) (mm_kb bq_220_5 ((wp_5_0).trans ((wp_3_7).trans ((wp_3_2).trans ((wp_1).trans ((wp_v4 mm_n_203 (mm_leq mm_m_203 (mm_lb rfl)) (mm_lb rfl) (mm_o40 hy)).trans rfl)))))))
theorem r_220_5_5 (vx1 : mm_V) (x2 : Int) (x3 : Int) (x4 : Int) (x6 : Int) (x7 : Int) (vx8 : mm_V) (vx9 : mm_V) (vx10 : mm_V) (vx11 : mm_V) (y0 : Int) {hi : mm_Id → Int → Int} {dh : Int → Int} {nx ns : Int} {Q : mm_V → mm_H → Prop} (hy : 10581 ≤ nx) :
    mm_Wp 220 (bk_220_5.drop 5) [zR (40, 0, 0), vx1, zI x2, zI x3, zL x4, zU, zI x6, zI x7, vx8, vx9, vx10, vx11] [zI y0] (mm_z hi dh nx ns) Q =
    (if y0 = 0 then Q (zI (-5)) (mm_z hi dh nx ns) else mm_Cl 179 [zR (40, 0, 0), zI x7, zI 28] (mm_z hi dh nx ns) (fun r h3 => mm_Wp 220 (bk_220_6.drop 4) [zR (40, 0, 0), vx1, zI x2, zI x3, zL x4, zU, zI x6, zI x7, vx8, vx9, vx10, vx11] (mm_push r []) h3 Q)) :=
  (wp_41).trans (mm_ic ((wp_1).trans (wp_90)) (mm_kb bq_220_6 ((wp_5_0).trans ((wp_3_7).trans ((wp_1).trans ((wp_v3 mm_n_179 (mm_leq mm_m_179 (mm_lb rfl)) (mm_lb rfl) (mm_o40 hy)).trans rfl))))))
theorem r_220_6_4 (vx1 : mm_V) (x2 : Int) (x3 : Int) (x4 : Int) (x6 : Int) (x7 : Int) (vx8 : mm_V) (vx9 : mm_V) (vx10 : mm_V) (vx11 : mm_V) {hi : mm_Id → Int → Int} {dh : Int → Int} {nx ns : Int} {Q : mm_V → mm_H → Prop} (hy : 10581 ≤ nx) :
    mm_Wp 220 (bk_220_6.drop 4) [zR (40, 0, 0), vx1, zI x2, zI x3, zL x4, zU, zI x6, zI x7, vx8, vx9, vx10, vx11] [] (mm_z hi dh nx ns) Q =
    mm_Cl 175 [zI x7, zI x2] (mm_z hi dh nx ns) (fun r h3 => mm_Wp 220 (bk_220_6.drop 11) [zR (40, 0, 0), vx1, zI x2, zI x3, zL x4, zU, zI x6, zI x7, vx8, vx9, vx10, vx11] (mm_push r [zR (47, 0, 0), zI x7, zR (40, 0, 0)]) h3 Q) :=
  (wp_5_0).trans ((wp_3_7).trans ((wp_5_0).trans ((wp_62 (by decide) (mm_o40 hy) (mm_r40_8 hy)).trans ((wp_3_7).trans ((wp_3_2).trans ((wp_s2 mm_n_175 (mm_leq mm_m_175 (mm_lb rfl)) (mm_lb rfl)).trans rfl))))))
theorem r_220_6_11 (vx1 : mm_V) (x2 : Int) (x3 : Int) (x4 : Int) (x6 : Int) (x7 : Int) (vx8 : mm_V) (vx9 : mm_V) (vx10 : mm_V) (vx11 : mm_V) (y0 : Int) (y2 : Int) {hi : mm_Id → Int → Int} {dh : Int → Int} {nx ns : Int} {Q : mm_V → mm_H → Prop} (hy : 10581 ≤ nx) :
    mm_Wp 220 (bk_220_6.drop 11) [zR (40, 0, 0), vx1, zI x2, zI x3, zL x4, zU, zI x6, zI x7, vx8, vx9, vx10, vx11] [zI y0, zR (47, 0, 0), zI y2, zR (40, 0, 0)] (mm_z hi dh nx ns) Q =
    ((0 ≤ y0 ∧ y0 < 1044) ∧ mm_Cl 205 [zR (40, 0, 0), zI y2, zI (hi (47, 0, 0) y0)] (mm_z hi dh nx ns) (fun r h3 => mm_Wp 220 (bk_220_6.drop 13) [zR (40, 0, 0), vx1, zI x2, zI x3, zL x4, zU, zI x6, zI x7, vx8, vx9, vx10, vx11] (mm_push r []) h3 Q)) :=
  (wp_70 (mm_q47 hy)).trans (mm_ae ((wp_v3 mm_n_205 (mm_leq mm_m_205 (mm_lb rfl)) (mm_lb rfl) (mm_o40 hy)).trans rfl))
theorem r_220_6_13 (vx1 : mm_V) (x2 : Int) (x3 : Int) (x4 : Int) (x6 : Int) (x7 : Int) (vx8 : mm_V) (vx9 : mm_V) (vx10 : mm_V) (vx11 : mm_V) (y0 : Int) {hi : mm_Id → Int → Int} {dh : Int → Int} {nx ns : Int} {Q : mm_V → mm_H → Prop} (hy : 10581 ≤ nx) :
    mm_Wp 220 (bk_220_6.drop 13) [zR (40, 0, 0), vx1, zI x2, zI x3, zL x4, zU, zI x6, zI x7, vx8, vx9, vx10, vx11] [zI y0] (mm_z hi dh nx ns) Q =
    mm_Wp 220 (mm_blk 220 7) [zR (40, 0, 0), vx1, zI x2, zI x3, zL x4, zU, zI x6, zI x7, zI y0, zI (mm_w (Int.tdiv (mm_w ((mm_w (x3 + x6)) - 1)) 60)), zI (mm_w (Int.tdiv x3 60)), vx11] [] (mm_z hi dh nx ns) Q :=
  (wp_6 (l2 := [zR (40, 0, 0), vx1, zI x2, zI x3, zL x4, zU, zI x6, zI x7, zI y0, vx9, vx10, vx11]) rfl).trans ((wp_3_3).trans ((wp_3_6).trans ((wp_10).trans ((wp_1).trans ((wp_11).trans ((wp_1).trans ((wp_13 (by decide)).trans ((wp_6 (l2 := [zR (40, 0, 0), vx1, zI x2, zI x3, zL x4, zU, zI x6, zI x7, zI y0, zI (mm_w (Int.tdiv (mm_w ((mm_w (x3 + x6)) - 1)) 60)), vx10, vx11]) rfl).trans ((wp_3_3).trans ((wp_1).trans ((wp_13 (by decide)).trans ((wp_6 (l2 := [zR (40, 0, 0), vx1, zI x2, zI x3, zL x4, zU, zI x6, zI x7, zI y0, zI (mm_w (Int.tdiv (mm_w ((mm_w (x3 + x6)) - 1)) 60)), zI (mm_w (Int.tdiv x3 60)), vx11]) rfl).trans ((wp_0).trans (rfl))))))))))))))
theorem r_220_7 (vx1 : mm_V) (x2 : Int) (x3 : Int) (x4 : Int) (x6 : Int) (x7 : Int) (x8 : Int) (x9 : Int) (x10 : Int) (vx11 : mm_V) {hi : mm_Id → Int → Int} {dh : Int → Int} {nx ns : Int} {Q : mm_V → mm_H → Prop} (hy : 10581 ≤ nx) :
    mm_Wp 220 (mm_blk 220 7) [zR (40, 0, 0), vx1, zI x2, zI x3, zL x4, zU, zI x6, zI x7, zI x8, zI x9, zI x10, vx11] [] (mm_z hi dh nx ns) Q =
    (if x9 < x10 then mm_Wp 220 (mm_blk 220 9) [zR (40, 0, 0), vx1, zI x2, zI x3, zL x4, zU, zI x6, zI x7, zI x8, zI x9, zI 0, vx11] [] (mm_z hi dh nx ns) Q else mm_Cl 219 [zR (40, 0, 0), zI x7, zI x2, zI x10, zI 2160] (mm_z hi dh nx ns) (fun r h3 => mm_Wp 220 (bk_220_7.drop 9) [zR (40, 0, 0), vx1, zI x2, zI x3, zL x4, zU, zI x6, zI x7, zI x8, zI x9, zI x10, vx11] (mm_push r []) h3 Q)) :=
  mm_kb bq_220_7 ((wp_3_10).trans ((wp_3_9).trans ((wp_50).trans (mm_ic (mm_kb bq_220_8 ((wp_1).trans ((wp_6 (l2 := [zR (40, 0, 0), vx1, zI x2, zI x3, zL x4, zU, zI x6, zI x7, zI x8, zI x9, zI 0, vx11]) rfl).trans ((wp_0).trans (rfl))))) ((wp_5_0).trans ((wp_3_7).trans ((wp_3_2).trans ((wp_3_10).trans ((wp_1).trans ((wp_v5 mm_n_219 (mm_leq mm_m_219 (mm_lb rfl)) (mm_lb rfl) (mm_o40 hy)).trans rfl))))))))))
theorem r_220_9 (vx1 : mm_V) (x2 : Int) (x3 : Int) (x4 : Int) (x6 : Int) (x7 : Int) (x8 : Int) (vx9 : mm_V) (x10 : Int) (vx11 : mm_V) {hi : mm_Id → Int → Int} {dh : Int → Int} {nx ns : Int} {Q : mm_V → mm_H → Prop} (hy : 10581 ≤ nx) :
    mm_Wp 220 (mm_blk 220 9) [zR (40, 0, 0), vx1, zI x2, zI x3, zL x4, zU, zI x6, zI x7, zI x8, vx9, zI x10, vx11] [] (mm_z hi dh nx ns) Q =
    (if x10 < x6 then mm_Cl 175 [zI x7, zI x2] (mm_z hi dh nx ns) (fun r h3 => mm_Wp 220 (bk_220_9.drop 9) [zR (40, 0, 0), vx1, zI x2, zI x3, zL x4, zU, zI x6, zI x7, zI x8, vx9, zI x10, vx11] (mm_push r [zI 36, zR (43, 0, 0)]) h3 Q) else mm_Cl 175 [zI x7, zI x2] (mm_z hi dh nx ns) (fun r h3 => mm_Wp 220 (bk_220_10.drop 3) [zR (40, 0, 0), vx1, zI x2, zI x3, zL x4, zU, zI x6, zI x7, zI x8, vx9, zI x10, vx11] (mm_push r []) h3 Q)) :=
  mm_kb bq_220_9 ((wp_3_10).trans ((wp_3_6).trans ((wp_49).trans (mm_ic ((wp_5_0).trans ((wp_62 (by decide) (mm_o40 hy) (mm_r40_4 hy)).trans ((wp_1).trans ((wp_3_7).trans ((wp_3_2).trans ((wp_s2 mm_n_175 (mm_leq mm_m_175 (mm_lb rfl)) (mm_lb rfl)).trans rfl)))))) (mm_kb bq_220_10 ((wp_3_7).trans ((wp_3_2).trans ((wp_s2 mm_n_175 (mm_leq mm_m_175 (mm_lb rfl)) (mm_lb rfl)).trans rfl))))))))
theorem r_220_7_9 (vx1 : mm_V) (x2 : Int) (x3 : Int) (x4 : Int) (x6 : Int) (x7 : Int) (x8 : Int) (x9 : Int) (x10 : Int) (vx11 : mm_V) (y0 : Int) {hi : mm_Id → Int → Int} {dh : Int → Int} {nx ns : Int} {Q : mm_V → mm_H → Prop} (hy : 10581 ≤ nx) :
    mm_Wp 220 (bk_220_7.drop 9) [zR (40, 0, 0), vx1, zI x2, zI x3, zL x4, zU, zI x6, zI x7, zI x8, zI x9, zI x10, vx11] [zI y0] (mm_z hi dh nx ns) Q =
    mm_Wp 220 (mm_blk 220 7) [zR (40, 0, 0), vx1, zI x2, zI x3, zL x4, zU, zI x6, zI x7, zI x8, zI x9, zI (mm_w (x10 + 1)), zI y0] [] (mm_z hi dh nx ns) Q :=
  (wp_6 (l2 := [zR (40, 0, 0), vx1, zI x2, zI x3, zL x4, zU, zI x6, zI x7, zI x8, zI x9, zI x10, zI y0]) rfl).trans ((wp_9 (l2 := [zR (40, 0, 0), vx1, zI x2, zI x3, zL x4, zU, zI x6, zI x7, zI x8, zI x9, zI (mm_w (x10 + 1)), zI y0]) rfl rfl).trans ((wp_56).trans (rfl)))
theorem r_220_10_3 (vx1 : mm_V) (vx2 : mm_V) (x3 : Int) (x4 : Int) (x6 : Int) (x7 : Int) (x8 : Int) (vx9 : mm_V) (vx10 : mm_V) (vx11 : mm_V) (y0 : Int) {hi : mm_Id → Int → Int} {dh : Int → Int} {nx ns : Int} {Q : mm_V → mm_H → Prop} (hvx9 : mm_wt vx9 = 1) (hy : 10581 ≤ nx) :
    mm_Wp 220 (bk_220_10.drop 3) [zR (40, 0, 0), vx1, vx2, zI x3, zL x4, zU, zI x6, zI x7, zI x8, vx9, vx10, vx11] [zI y0] (mm_z hi dh nx ns) Q =
    ((0 ≤ y0 ∧ y0 < 1044) ∧ (if (hi (42, 0, 0) y0) < (mm_w (x3 + x6)) then mm_Wp 220 (mm_blk 220 12) [zR (40, 0, 0), vx1, vx2, zI x3, zL x4, zU, zI x6, zI x7, zI x8, vx9, zI y0, vx11] [zI (mm_w (x3 + x6)), zI y0, zR (42, 0, 0)] (mm_z hi dh nx ns) Q else ((0 ≤ y0 ∧ y0 < 1044) ∧ mm_Wp 220 (mm_blk 220 12) [zR (40, 0, 0), vx1, vx2, zI x3, zL x4, zU, zI x6, zI x7, zI x8, vx9, zI y0, vx11] [zI (hi (42, 0, 0) y0), zI y0, zR (42, 0, 0)] (mm_z hi dh nx ns) Q))) :=
  (wp_6 (l2 := [zR (40, 0, 0), vx1, vx2, zI x3, zL x4, zU, zI x6, zI x7, zI x8, vx9, zI y0, vx11]) ((if_pos (mm_lb rfl)).trans (congrArg some (mm_stw rfl hvx9)))).trans ((wp_5_0).trans ((wp_62 (by decide) (mm_o40 hy) (mm_r40_3 hy)).trans ((wp_3_10).trans ((wp_3_3).trans ((wp_3_6).trans ((wp_10).trans ((wp_5_0).trans ((wp_62 (by decide) (mm_o40 hy) (mm_r40_3 hy)).trans ((wp_3_10).trans ((wp_70 (mm_q42 hy)).trans (mm_ae ((wp_51).trans (mm_ic ((wp_3_3).trans ((wp_3_6).trans ((wp_10).trans ((wp_56).trans (rfl))))) (mm_kb bq_220_11 ((wp_5_0).trans ((wp_62 (by decide) (mm_o40 hy) (mm_r40_3 hy)).trans ((wp_3_10).trans ((wp_70 (mm_q42 hy)).trans (mm_ae ((wp_0).trans (rfl)))))))))))))))))))))
theorem r_220_9_9 (vx1 : mm_V) (x2 : Int) (x3 : Int) (x4 : Int) (x6 : Int) (x7 : Int) (x8 : Int) (vx9 : mm_V) (x10 : Int) (vx11 : mm_V) (y0 : Int) (y1 : Int) {hi : mm_Id → Int → Int} {dh : Int → Int} {nx ns : Int} {Q : mm_V → mm_H → Prop} (hy : 10581 ≤ nx) :
    mm_Wp 220 (bk_220_9.drop 9) [zR (40, 0, 0), vx1, zI x2, zI x3, zL x4, zU, zI x6, zI x7, zI x8, vx9, zI x10, vx11] [zI y0, zI y1, zR (43, 0, 0)] (mm_z hi dh nx ns) Q =
    ((0 ≤ (mm_w ((mm_w (y1 * y0)) + (mm_w (Int.tdiv (mm_w (x3 + x10)) 60)))) ∧ (mm_w ((mm_w (y1 * y0)) + (mm_w (Int.tdiv (mm_w (x3 + x10)) 60)))) < 37584) ∧ ((0 ≤ (mm_w ((mm_w (60 * (hi (43, 0, 0) (mm_w ((mm_w (y1 * y0)) + (mm_w (Int.tdiv (mm_w (x3 + x10)) 60))))))) + (Int.tmod (mm_w (x3 + x10)) 60))) ∧ (mm_w ((mm_w (60 * (hi (43, 0, 0) (mm_w ((mm_w (y1 * y0)) + (mm_w (Int.tdiv (mm_w (x3 + x10)) 60))))))) + (Int.tmod (mm_w (x3 + x10)) 60))) < 180060) ∧ mm_Wp 220 (mm_blk 220 9) [zR (40, 0, 0), vx1, zI x2, zI x3, zL x4, zU, zI x6, zI x7, zI x8, vx9, zI (mm_w (x10 + 1)), zI (hi (43, 0, 0) (mm_w ((mm_w (y1 * y0)) + (mm_w (Int.tdiv (mm_w (x3 + x10)) 60)))))] [] (mm_z (mm_up hi (54, 0, 0) (mm_w ((mm_w (60 * (hi (43, 0, 0) (mm_w ((mm_w (y1 * y0)) + (mm_w (Int.tdiv (mm_w (x3 + x10)) 60))))))) + (Int.tmod (mm_w (x3 + x10)) 60))) (mm_b (mm_b (mm_w (mm_lshr x4 (mm_w (8 * (mm_w ((mm_w (x6 - 1)) - x10))))))))) dh nx ns) Q)) :=
  (wp_12).trans ((wp_3_3).trans ((wp_3_10).trans ((wp_10).trans ((wp_1).trans ((wp_13 (by decide)).trans ((wp_10).trans ((wp_70 (mm_q43 hy)).trans (mm_ae ((wp_6 (l2 := [zR (40, 0, 0), vx1, zI x2, zI x3, zL x4, zU, zI x6, zI x7, zI x8, vx9, zI x10, zI (hi (43, 0, 0) (mm_w ((mm_w (y1 * y0)) + (mm_w (Int.tdiv (mm_w (x3 + x10)) 60)))))]) rfl).trans ((wp_5_0).trans ((wp_62 (by decide) (mm_o40 hy) (mm_r40_15 hy)).trans ((wp_1).trans ((wp_3_11).trans ((wp_12).trans ((wp_3_3).trans ((wp_3_10).trans ((wp_10).trans ((wp_1).trans ((wp_14 (by decide)).trans ((wp_10).trans ((wp_4_4).trans ((wp_1).trans ((wp_3_6).trans ((wp_1).trans ((wp_11).trans ((wp_3_10).trans ((wp_11).trans ((wp_12).trans ((wp_29).trans ((wp_32).trans ((wp_33).trans ((wp_75 (mm_q54 hy)).trans (mm_ae ((wp_9 (l2 := [zR (40, 0, 0), vx1, zI x2, zI x3, zL x4, zU, zI x6, zI x7, zI x8, vx9, zI (mm_w (x10 + 1)), zI (hi (43, 0, 0) (mm_w ((mm_w (y1 * y0)) + (mm_w (Int.tdiv (mm_w (x3 + x10)) 60)))))]) rfl rfl).trans ((wp_56).trans (rfl))))))))))))))))))))))))))))))))))))
theorem r_220_12 (vx1 : mm_V) (vx2 : mm_V) (vx3 : mm_V) (x4 : Int) (vx6 : mm_V) (x7 : Int) (x8 : Int) (vx9 : mm_V) (x10 : Int) (vx11 : mm_V) (y0 : Int) (y1 : Int) {hi : mm_Id → Int → Int} {dh : Int → Int} {nx ns : Int} {Q : mm_V → mm_H → Prop} (hy : 10581 ≤ nx) :
    mm_Wp 220 (mm_blk 220 12) [zR (40, 0, 0), vx1, vx2, vx3, zL x4, zU, vx6, zI x7, zI x8, vx9, zI x10, vx11] [zI y0, zI y1, zR (42, 0, 0)] (mm_z hi dh nx ns) Q =
    ((0 ≤ y1 ∧ y1 < 1044) ∧ mm_Cl 201 [zR (40, 0, 0), zI x7] (mm_z (mm_up hi (42, 0, 0) y1 y0) dh nx ns) (fun r h3 => mm_Wp 220 (bk_220_12.drop 4) [zR (40, 0, 0), vx1, vx2, vx3, zL x4, zU, vx6, zI x7, zI x8, vx9, zI x10, vx11] (mm_push r []) h3 Q)) :=
  mm_kb bq_220_12 ((wp_74 (mm_q42 hy)).trans (mm_ae ((wp_5_0).trans ((wp_3_7).trans ((wp_v2 mm_n_201 (mm_leq mm_m_201 (mm_lb rfl)) (mm_lb rfl) (mm_o40 hy)).trans rfl)))))
theorem r_220_12_4 (vx1 : mm_V) (vx2 : mm_V) (vx3 : mm_V) (x4 : Int) (vx6 : mm_V) (x7 : Int) (x8 : Int) (vx9 : mm_V) (x10 : Int) (vx11 : mm_V) (y0 : Int) {hi : mm_Id → Int → Int} {dh : Int → Int} {nx ns : Int} {Q : mm_V → mm_H → Prop} (hy : 10581 ≤ nx) :
    mm_Wp 220 (bk_220_12.drop 4) [zR (40, 0, 0), vx1, vx2, vx3, zL x4, zU, vx6, zI x7, zI x8, vx9, zI x10, vx11] [zI y0] (mm_z hi dh nx ns) Q =
    (if y0 = 0 then mm_Wp 220 (mm_blk 220 13) [zR (40, 0, 0), vx1, vx2, vx3, zL x4, zU, vx6, zI x7, zI x8, vx9, zI x10, vx11] [] (mm_z hi dh nx ns) Q else ((0 ≤ x10 ∧ x10 < 1044) ∧ mm_Cl 205 [zR (40, 0, 0), zI x7, zI (hi (47, 0, 0) x10)] (mm_z hi dh nx ns) (fun r h3 => mm_Wp 220 (bk_220_12.drop 12) [zR (40, 0, 0), vx1, vx2, vx3, zL x4, zU, vx6, zI x7, zI x8, vx9, zI x10, vx11] (mm_push r []) h3 Q))) :=
  (wp_40).trans (mm_ic (rfl) ((wp_5_0).trans ((wp_3_7).trans ((wp_5_0).trans ((wp_62 (by decide) (mm_o40 hy) (mm_r40_8 hy)).trans ((wp_3_10).trans ((wp_70 (mm_q47 hy)).trans (mm_ae ((wp_v3 mm_n_205 (mm_leq mm_m_205 (mm_lb rfl)) (mm_lb rfl) (mm_o40 hy)).trans rfl)))))))))
theorem r_220_13 (vx1 : mm_V) (vx2 : mm_V) (vx3 : mm_V) (x4 : Int) (vx6 : mm_V) (x7 : Int) (vx8 : mm_V) (vx9 : mm_V) (vx10 : mm_V) (vx11 : mm_V) {hi : mm_Id → Int → Int} {dh : Int → Int} {nx ns : Int} {Q : mm_V → mm_H → Prop} (hy : 10581 ≤ nx) :
    mm_Wp 220 (mm_blk 220 13) [zR (40, 0, 0), vx1, vx2, vx3, zL x4, zU, vx6, zI x7, vx8, vx9, vx10, vx11] [] (mm_z hi dh nx ns) Q =
    mm_Cl 179 [zR (40, 0, 0), zI 28, zI x7] (mm_z hi dh nx ns) (fun r h3 => mm_Wp 220 (bk_220_13.drop 4) [zR (40, 0, 0), vx1, vx2, vx3, zL x4, zU, vx6, zI x7, vx8, vx9, vx10, vx11] (mm_push r []) h3 Q) :=
  mm_kb bq_220_13 ((wp_5_0).trans ((wp_1).trans ((wp_3_7).trans ((wp_v3 mm_n_179 (mm_leq mm_m_179 (mm_lb rfl)) (mm_lb rfl) (mm_o40 hy)).trans rfl))))
theorem r_220_12_12 (vx1 : mm_V) (vx2 : mm_V) (vx3 : mm_V) (x4 : Int) (vx6 : mm_V) (x7 : Int) (x8 : Int) (vx9 : mm_V) (x10 : Int) (vx11 : mm_V) (y0 : Int) {hi : mm_Id → Int → Int} {dh : Int → Int} {nx ns : Int} {Q : mm_V → mm_H → Prop} (hy : 10581 ≤ nx) :
    mm_Wp 220 (bk_220_12.drop 12) [zR (40, 0, 0), vx1, vx2, vx3, zL x4, zU, vx6, zI x7, zI x8, vx9, zI x10, vx11] [zI y0] (mm_z hi dh nx ns) Q =
    (if x8 < y0 then ((0 ≤ x10 ∧ x10 < 1044) ∧ mm_Cl 206 [zR (40, 0, 0), zI x7, zI (hi (47, 0, 0) x10)] (mm_z hi dh nx ns) (fun r h3 => mm_Wp 220 (bk_220_12.drop 21) [zR (40, 0, 0), vx1, vx2, vx3, zL x4, zU, vx6, zI x7, zI x8, vx9, zI x10, vx11] (mm_push r []) h3 Q)) else mm_Wp 220 (mm_blk 220 14) [zR (40, 0, 0), vx1, vx2, vx3, zL x4, zU, vx6, zI x7, zI x8, vx9, zI x10, vx11] [] (mm_z hi dh nx ns) Q) :=
  (wp_3_8).trans ((wp_51).trans (mm_ic ((wp_5_0).trans ((wp_3_7).trans ((wp_5_0).trans ((wp_62 (by decide) (mm_o40 hy) (mm_r40_8 hy)).trans ((wp_3_10).trans ((wp_70 (mm_q47 hy)).trans (mm_ae ((wp_v3 mm_n_206 (mm_leq mm_m_206 (mm_lb rfl)) (mm_lb rfl) (mm_o40 hy)).trans rfl)))))))) (rfl)))
theorem r_220_13_4 (vx0 : mm_V) (vx1 : mm_V) (vx2 : mm_V) (vx3 : mm_V) (x4 : Int) (vx6 : mm_V) (vx7 : mm_V) (vx8 : mm_V) (vx9 : mm_V) (vx10 : mm_V) (vx11 : mm_V) {hi : mm_Id → Int → Int} {dh : Int → Int} {nx ns : Int} {Q : mm_V → mm_H → Prop} (hy : 10581 ≤ nx) :
    mm_Wp 220 (bk_220_13.drop 4) [vx0, vx1, vx2, vx3, zL x4, zU, vx6, vx7, vx8, vx9, vx10, vx11] [] (mm_z hi dh nx ns) Q =
    Q (zI (-4)) (mm_z hi dh nx ns) :=
  (wp_1).trans (wp_90)
theorem r_220_14 (vx1 : mm_V) (vx2 : mm_V) (vx3 : mm_V) (x4 : Int) (vx6 : mm_V) (vx7 : mm_V) (vx8 : mm_V) (vx9 : mm_V) (x10 : Int) (vx11 : mm_V) {hi : mm_Id → Int → Int} {dh : Int → Int} {nx ns : Int} {Q : mm_V → mm_H → Prop} (hy : 10581 ≤ nx) :
    mm_Wp 220 (mm_blk 220 14) [zR (40, 0, 0), vx1, vx2, vx3, zL x4, zU, vx6, vx7, vx8, vx9, zI x10, vx11] [] (mm_z hi dh nx ns) Q =
    ((0 ≤ x10 ∧ x10 < 1044) ∧ mm_Cl 209 [zR (40, 0, 0)] (mm_z hi dh nx ns) (fun r h3 => mm_Wp 220 (bk_220_14.drop 7) [zR (40, 0, 0), vx1, vx2, vx3, zL x4, zU, vx6, vx7, vx8, vx9, zI x10, zI (hi (42, 0, 0) x10)] (mm_push r []) h3 Q)) :=
  mm_kb bq_220_14 ((wp_5_0).trans ((wp_62 (by decide) (mm_o40 hy) (mm_r40_3 hy)).trans ((wp_3_10).trans ((wp_70 (mm_q42 hy)).trans (mm_ae ((wp_6 (l2 := [zR (40, 0, 0), vx1, vx2, vx3, zL x4, zU, vx6, vx7, vx8, vx9, zI x10, zI (hi (42, 0, 0) x10)]) rfl).trans ((wp_5_0).trans ((wp_v1 mm_n_209 (mm_leq mm_m_209 (mm_lb rfl)) (mm_lb rfl) (mm_o40 hy)).trans rfl))))))))
theorem r_220_12_21 (vx1 : mm_V) (vx2 : mm_V) (vx3 : mm_V) (x4 : Int) (vx6 : mm_V) (x7 : Int) (vx8 : mm_V) (vx9 : mm_V) (x10 : Int) (vx11 : mm_V) (y0 : Int) {hi : mm_Id → Int → Int} {dh : Int → Int} {nx ns : Int} {Q : mm_V → mm_H → Prop} (hy : 10581 ≤ nx) :
    mm_Wp 220 (bk_220_12.drop 21) [zR (40, 0, 0), vx1, vx2, vx3, zL x4, zU, vx6, zI x7, vx8, vx9, zI x10, vx11] [zI y0] (mm_z hi dh nx ns) Q =
    (if y0 = 0 then mm_Wp 220 (mm_blk 220 13) [zR (40, 0, 0), vx1, vx2, vx3, zL x4, zU, vx6, zI x7, vx8, vx9, zI x10, vx11] [] (mm_z hi dh nx ns) Q else mm_Wp 220 (mm_blk 220 14) [zR (40, 0, 0), vx1, vx2, vx3, zL x4, zU, vx6, zI x7, vx8, vx9, zI x10, vx11] [] (mm_z hi dh nx ns) Q) :=
  (wp_41).trans (mm_ic ((wp_0).trans (rfl)) (rfl))
theorem r_220_14_7 (vx0 : mm_V) (vx1 : mm_V) (vx2 : mm_V) (vx3 : mm_V) (x4 : Int) (vx6 : mm_V) (vx7 : mm_V) (vx8 : mm_V) (vx9 : mm_V) (vx10 : mm_V) (x11 : Int) {hi : mm_Id → Int → Int} {dh : Int → Int} {nx ns : Int} {Q : mm_V → mm_H → Prop} (hy : 10581 ≤ nx) :
    mm_Wp 220 (bk_220_14.drop 7) [vx0, vx1, vx2, vx3, zL x4, zU, vx6, vx7, vx8, vx9, vx10, zI x11] [] (mm_z hi dh nx ns) Q =
    Q (zI x11) (mm_z hi dh nx ns) :=
  (wp_3_11).trans (wp_90)
/-- PoolHouseModel.read(III)I -/
theorem bq_221_0 : mm_blk 221 0 = bk_221_0 := by decide +kernel
theorem bq_221_1 : mm_blk 221 1 = bk_221_1 := by decide +kernel
theorem bq_221_2 : mm_blk 221 2 = bk_221_2 := by decide +kernel
theorem bq_221_3 : mm_blk 221 3 = bk_221_3 := by decide +kernel
theorem bq_221_4 : mm_blk 221 4 = bk_221_4 := by decide +kernel
theorem bq_221_5 : mm_blk 221 5 = bk_221_5 := by decide +kernel
theorem r_221_e (x1 : Int) (x2 : Int) (x3 : Int) {hi : mm_Id → Int → Int} {dh : Int → Int} {nx ns : Int} {Q : mm_V → mm_H → Prop} (hy : 10581 ≤ nx) :
    mm_Cl 221 [zR (40, 0, 0), zI x1, zI x2, zI x3] (mm_z hi dh nx ns) Q =
    mm_Cl 181 [zR (40, 0, 0), zI x1] (mm_z (mm_up hi (40, 0, 0) 0 0) dh nx ns) (fun r h3 => mm_Wp 221 (bk_221_0.drop 6) [zR (40, 0, 0), zI x1, zI x2, zI x3, zU] (mm_push r []) h3 Q) :=
  mm_ce (l2 := [zR (40, 0, 0), zI x1, zI x2, zI x3, zU]) rfl (mm_kb bq_221_0 ((wp_5_0).trans ((wp_1).trans ((wp_63 (mm_o40 hy)).trans ((wp_5_0).trans ((wp_3_1).trans ((wp_v2 mm_n_181 (mm_leq mm_m_181 (mm_lb rfl)) (mm_lb rfl) (mm_o40 hy)).trans rfl)))))))
theorem r_221_0_6 (vx1 : mm_V) (x2 : Int) (x3 : Int) (vx4 : mm_V) (y0 : Int) {hi : mm_Id → Int → Int} {dh : Int → Int} {nx ns : Int} {Q : mm_V → mm_H → Prop} (hy : 10581 ≤ nx) :
    mm_Wp 221 (bk_221_0.drop 6) [zR (40, 0, 0), vx1, zI x2, zI x3, vx4] [zI y0] (mm_z hi dh nx ns) Q =
    mm_Cl 210 [zR (40, 0, 0), zI y0, zI x2] (mm_z hi dh nx ns) (fun r h3 => mm_Wp 221 (bk_221_0.drop 11) [zR (40, 0, 0), vx1, zI x2, zI x3, zI y0] (mm_push r []) h3 Q) :=
  (wp_6 (l2 := [zR (40, 0, 0), vx1, zI x2, zI x3, zI y0]) rfl).trans ((wp_5_0).trans ((wp_3_4).trans ((wp_3_2).trans ((wp_v3 mm_n_210 (mm_leq mm_m_210 (mm_lb rfl)) (mm_lb rfl) (mm_o40 hy)).trans rfl))))
theorem r_221_0_11 (vx1 : mm_V) (x2 : Int) (x3 : Int) (x4 : Int) (y0 : Int) {hi : mm_Id → Int → Int} {dh : Int → Int} {nx ns : Int} {Q : mm_V → mm_H → Prop} (hy : 10581 ≤ nx) :
    mm_Wp 221 (bk_221_0.drop 11) [zR (40, 0, 0), vx1, zI x2, zI x3, zI x4] [zI y0] (mm_z hi dh nx ns) Q =
    (if y0 = 0 then Q (zI (-1)) (mm_z hi dh nx ns) else mm_Cl 177 [zR (40, 0, 0), zI x4, zI x2] (mm_z hi dh nx ns) (fun r h3 => mm_Wp 221 (bk_221_1.drop 4) [zR (40, 0, 0), vx1, zI x2, zI x3, zI x4] (mm_push r []) h3 Q)) :=
  (wp_41).trans (mm_ic ((wp_1).trans (wp_90)) (mm_kb bq_221_1 ((wp_5_0).trans ((wp_3_4).trans ((wp_3_2).trans ((wp_v3 mm_n_177 (mm_leq mm_m_177 (mm_lb rfl)) (mm_lb rfl) (mm_o40 hy)).trans rfl))))))
theorem r_221_1_4 (vx1 : mm_V) (x2 : Int) (x3 : Int) (x4 : Int) (y0 : Int) {hi : mm_Id → Int → Int} {dh : Int → Int} {nx ns : Int} {Q : mm_V → mm_H → Prop} (hy : 10581 ≤ nx) :
    mm_Wp 221 (bk_221_1.drop 4) [zR (40, 0, 0), vx1, zI x2, zI x3, zI x4] [zI y0] (mm_z hi dh nx ns) Q =
    (if y0 = 0 then Q (zI (-3)) (mm_z hi dh nx ns) else mm_Cl 175 [zI x4, zI x2] (mm_z hi dh nx ns) (fun r h3 => mm_Wp 221 (bk_221_2.drop 8) [zR (40, 0, 0), vx1, zI x2, zI x3, zI x4] (mm_push r [zR (42, 0, 0), zL 0, zL x3]) h3 Q)) :=
  (wp_41).trans (mm_ic ((wp_1).trans (wp_90)) (mm_kb bq_221_2 ((wp_3_3).trans ((wp_31).trans ((wp_2).trans ((wp_5_0).trans ((wp_62 (by decide) (mm_o40 hy) (mm_r40_3 hy)).trans ((wp_3_4).trans ((wp_3_2).trans ((wp_s2 mm_n_175 (mm_leq mm_m_175 (mm_lb rfl)) (mm_lb rfl)).trans rfl))))))))))
theorem r_221_2_8 (vx1 : mm_V) (x2 : Int) (x3 : Int) (x4 : Int) (y0 : Int) (y2 : Int) (y3 : Int) {hi : mm_Id → Int → Int} {dh : Int → Int} {nx ns : Int} {Q : mm_V → mm_H → Prop} (hy : 10581 ≤ nx) :
    mm_Wp 221 (bk_221_2.drop 8) [zR (40, 0, 0), vx1, zI x2, zI x3, zI x4] [zI y0, zR (42, 0, 0), zL y2, zL y3] (mm_z hi dh nx ns) Q =
    ((0 ≤ y0 ∧ y0 < 1044) ∧ mm_Cl 174 [zL y3, zL y2, zL (mm_w ((hi (42, 0, 0) y0) - 1))] (mm_z hi dh nx ns) (fun r h3 => mm_Wp 221 (bk_221_2.drop 13) [zR (40, 0, 0), vx1, zI x2, zI x3, zI x4] (mm_push r []) h3 Q)) :=
  (wp_70 (mm_q42 hy)).trans (mm_ae ((wp_1).trans ((wp_11).trans ((wp_31).trans ((wp_s3 mm_n_174 (mm_leq mm_m_174 (mm_lb rfl)) (mm_lb rfl)).trans rfl)))))
theorem r_221_2_13 (vx1 : mm_V) (x2 : Int) (x3 : Int) (x4 : Int) (y0 : Int) {hi : mm_Id → Int → Int} {dh : Int → Int} {nx ns : Int} {Q : mm_V → mm_H → Prop} (hy : 10581 ≤ nx) :
    mm_Wp 221 (bk_221_2.drop 13) [zR (40, 0, 0), vx1, zI x2, zI x3, zI x4] [zI y0] (mm_z hi dh nx ns) Q =
    (if y0 = 0 then Q (zI (-2)) (mm_z hi dh nx ns) else mm_Cl 203 [zR (40, 0, 0), zI x4, zI x2, zI 4] (mm_z hi dh nx ns) (fun r h3 => mm_Wp 221 (bk_221_3.drop 5) [zR (40, 0, 0), vx1, zI x2, zI x3, zI x4] (mm_push r []) h3 Q)) :=
  (wp_41).trans (mm_ic ((wp_1).trans (wp_90)) (mm_kb bq_221_3 ((wp_5_0).trans ((wp_3_4).trans ((wp_3_2).trans ((wp_1).trans ((wp_v4 mm_n_203 (mm_leq mm_m_203 (mm_lb rfl)) (mm_lb rfl) (mm_o40 hy)).trans rfl)))))))
theorem r_221_3_5 (vx1 : mm_V) (x2 : Int) (x3 : Int) (x4 : Int) (y0 : Int) {hi : mm_Id → Int → Int} {dh : Int → Int} {nx ns : Int} {Q : mm_V → mm_H → Prop} (hy : 10581 ≤ nx) :
    mm_Wp 221 (bk_221_3.drop 5) [zR (40, 0, 0), vx1, zI x2, zI x3, zI x4] [zI y0] (mm_z hi dh nx ns) Q =
    (if y0 = 0 then mm_Wp 221 (mm_blk 221 5) [zR (40, 0, 0), vx1, zI x2, zI x3, zI x4] [zI (-5)] (mm_z hi dh nx ns) Q else mm_Cl 207 [zR (40, 0, 0), zI x4, zI x2, zI x3] (mm_z hi dh nx ns) (fun r h3 => mm_Wp 221 (bk_221_3.drop 11) [zR (40, 0, 0), vx1, zI x2, zI x3, zI x4] (mm_push r []) h3 Q)) :=
  (wp_40).trans (mm_ic (mm_kb bq_221_4 ((wp_1).trans ((wp_0).trans (rfl)))) ((wp_5_0).trans ((wp_3_4).trans ((wp_3_2).trans ((wp_3_3).trans ((wp_v4 mm_n_207 (mm_leq mm_m_207 (mm_lb rfl)) (mm_lb rfl) (mm_o40 hy)).trans rfl))))))
theorem r_221_5 (vx0 : mm_V) (vx1 : mm_V) (vx2 : mm_V) (vx3 : mm_V) (vx4 : mm_V) (y0 : Int) {hi : mm_Id → Int → Int} {dh : Int → Int} {nx ns : Int} {Q : mm_V → mm_H → Prop} (hy : 10581 ≤ nx) :
    mm_Wp 221 (mm_blk 221 5) [vx0, vx1, vx2, vx3, vx4] [zI y0] (mm_z hi dh nx ns) Q =
    Q (zI y0) (mm_z hi dh nx ns) :=
  mm_kb bq_221_5 (wp_90)
theorem r_221_3_11 (vx0 : mm_V) (vx1 : mm_V) (vx2 : mm_V) (vx3 : mm_V) (vx4 : mm_V) (y0 : Int) {hi : mm_Id → Int → Int} {dh : Int → Int} {nx ns : Int} {Q : mm_V → mm_H → Prop} (hy : 10581 ≤ nx) :
    mm_Wp 221 (bk_221_3.drop 11) [vx0, vx1, vx2, vx3, vx4] [zI y0] (mm_z hi dh nx ns) Q =
    mm_Wp 221 (mm_blk 221 5) [vx0, vx1, vx2, vx3, vx4] [zI y0] (mm_z hi dh nx ns) Q :=
  (wp_56).trans (rfl)
/-- PoolHouseModel.cut(III)I -/
theorem bq_222_0 : mm_blk 222 0 = bk_222_0 := by decide +kernel
theorem bq_222_1 : mm_blk 222 1 = bk_222_1 := by decide +kernel
theorem bq_222_2 : mm_blk 222 2 = bk_222_2 := by decide +kernel
theorem bq_222_3 : mm_blk 222 3 = bk_222_3 := by decide +kernel
theorem bq_222_4 : mm_blk 222 4 = bk_222_4 := by decide +kernel
theorem bq_222_5 : mm_blk 222 5 = bk_222_5 := by decide +kernel
theorem bq_222_6 : mm_blk 222 6 = bk_222_6 := by decide +kernel
theorem bq_222_7 : mm_blk 222 7 = bk_222_7 := by decide +kernel
theorem bq_222_8 : mm_blk 222 8 = bk_222_8 := by decide +kernel
theorem bq_222_9 : mm_blk 222 9 = bk_222_9 := by decide +kernel
theorem r_222_e (x1 : Int) (x2 : Int) (x3 : Int) {hi : mm_Id → Int → Int} {dh : Int → Int} {nx ns : Int} {Q : mm_V → mm_H → Prop} (hy : 10581 ≤ nx) :
    mm_Cl 222 [zR (40, 0, 0), zI x1, zI x2, zI x3] (mm_z hi dh nx ns) Q =
    mm_Cl 181 [zR (40, 0, 0), zI x1] (mm_z (mm_up hi (40, 0, 0) 0 0) dh nx ns) (fun r h3 => mm_Wp 222 (bk_222_0.drop 6) [zR (40, 0, 0), zI x1, zI x2, zI x3, zU, zU, zU, zU] (mm_push r []) h3 Q) :=
  mm_ce (l2 := [zR (40, 0, 0), zI x1, zI x2, zI x3, zU, zU, zU, zU]) rfl (mm_kb bq_222_0 ((wp_5_0).trans ((wp_1).trans ((wp_63 (mm_o40 hy)).trans ((wp_5_0).trans ((wp_3_1).trans ((wp_v2 mm_n_181 (mm_leq mm_m_181 (mm_lb rfl)) (mm_lb rfl) (mm_o40 hy)).trans rfl)))))))
theorem r_222_0_6 (vx1 : mm_V) (x2 : Int) (x3 : Int) (vx4 : mm_V) (vx5 : mm_V) (vx6 : mm_V) (vx7 : mm_V) (y0 : Int) {hi : mm_Id → Int → Int} {dh : Int → Int} {nx ns : Int} {Q : mm_V → mm_H → Prop} (hy : 10581 ≤ nx) :
    mm_Wp 222 (bk_222_0.drop 6) [zR (40, 0, 0), vx1, zI x2, zI x3, vx4, vx5, vx6, vx7] [zI y0] (mm_z hi dh nx ns) Q =
    mm_Cl 210 [zR (40, 0, 0), zI y0, zI x2] (mm_z hi dh nx ns) (fun r h3 => mm_Wp 222 (bk_222_0.drop 11) [zR (40, 0, 0), vx1, zI x2, zI x3, zI y0, vx5, vx6, vx7] (mm_push r []) h3 Q) :=
  (wp_6 (l2 := [zR (40, 0, 0), vx1, zI x2, zI x3, zI y0, vx5, vx6, vx7]) rfl).trans ((wp_5_0).trans ((wp_3_4).trans ((wp_3_2).trans ((wp_v3 mm_n_210 (mm_leq mm_m_210 (mm_lb rfl)) (mm_lb rfl) (mm_o40 hy)).trans rfl))))
theorem r_222_0_11 (vx1 : mm_V) (x2 : Int) (x3 : Int) (x4 : Int) (vx5 : mm_V) (vx6 : mm_V) (vx7 : mm_V) (y0 : Int) {hi : mm_Id → Int → Int} {dh : Int → Int} {nx ns : Int} {Q : mm_V → mm_H → Prop} (hy : 10581 ≤ nx) :
    mm_Wp 222 (bk_222_0.drop 11) [zR (40, 0, 0), vx1, zI x2, zI x3, zI x4, vx5, vx6, vx7] [zI y0] (mm_z hi dh nx ns) Q =
    (if y0 = 0 then Q (zI (-1)) (mm_z hi dh nx ns) else mm_Cl 174 [zL x3, zL 0, zL 2160] (mm_z hi dh nx ns) (fun r h3 => mm_Wp 222 (bk_222_1.drop 5) [zR (40, 0, 0), vx1, zI x2, zI x3, zI x4, vx5, vx6, vx7] (mm_push r []) h3 Q)) :=
  (wp_41).trans (mm_ic ((wp_1).trans (wp_90)) (mm_kb bq_222_1 ((wp_3_3).trans ((wp_31).trans ((wp_2).trans ((wp_2).trans ((wp_s3 mm_n_174 (mm_leq mm_m_174 (mm_lb rfl)) (mm_lb rfl)).trans rfl)))))))
theorem r_222_1_5 (vx1 : mm_V) (x2 : Int) (x3 : Int) (x4 : Int) (vx5 : mm_V) (vx6 : mm_V) (vx7 : mm_V) (y0 : Int) {hi : mm_Id → Int → Int} {dh : Int → Int} {nx ns : Int} {Q : mm_V → mm_H → Prop} (hy : 10581 ≤ nx) :
    mm_Wp 222 (bk_222_1.drop 5) [zR (40, 0, 0), vx1, zI x2, zI x3, zI x4, vx5, vx6, vx7] [zI y0] (mm_z hi dh nx ns) Q =
    (if y0 = 0 then Q (zI (-2)) (mm_z hi dh nx ns) else (if x4 < 5 then mm_Cl 177 [zR (40, 0, 0), zI x4, zI x2] (mm_z hi dh nx ns) (fun r h3 => mm_Wp 222 (bk_222_2.drop 7) [zR (40, 0, 0), vx1, zI x2, zI x3, zI x4, vx5, vx6, vx7] (mm_push r []) h3 Q) else mm_Wp 222 (mm_blk 222 3) [zR (40, 0, 0), vx1, zI x2, zI x3, zI x4, vx5, vx6, vx7] [] (mm_z hi dh nx ns) Q)) :=
  (wp_41).trans (mm_ic ((wp_1).trans (wp_90)) (mm_kb bq_222_2 ((wp_3_4).trans ((wp_1).trans ((wp_49).trans (mm_ic ((wp_5_0).trans ((wp_3_4).trans ((wp_3_2).trans ((wp_v3 mm_n_177 (mm_leq mm_m_177 (mm_lb rfl)) (mm_lb rfl) (mm_o40 hy)).trans rfl)))) (rfl)))))))
theorem r_222_3 (vx0 : mm_V) (vx1 : mm_V) (vx2 : mm_V) (vx3 : mm_V) (vx4 : mm_V) (vx5 : mm_V) (vx6 : mm_V) (vx7 : mm_V) {hi : mm_Id → Int → Int} {dh : Int → Int} {nx ns : Int} {Q : mm_V → mm_H → Prop} (hy : 10581 ≤ nx) :
    mm_Wp 222 (mm_blk 222 3) [vx0, vx1, vx2, vx3, vx4, vx5, vx6, vx7] [] (mm_z hi dh nx ns) Q =
    Q (zI (-3)) (mm_z hi dh nx ns) :=
  mm_kb bq_222_3 ((wp_1).trans (wp_90))
theorem r_222_2_7 (vx1 : mm_V) (x2 : Int) (x3 : Int) (x4 : Int) (vx5 : mm_V) (vx6 : mm_V) (vx7 : mm_V) (y0 : Int) {hi : mm_Id → Int → Int} {dh : Int → Int} {nx ns : Int} {Q : mm_V → mm_H → Prop} (hy : 10581 ≤ nx) :
    mm_Wp 222 (bk_222_2.drop 7) [zR (40, 0, 0), vx1, zI x2, zI x3, zI x4, vx5, vx6, vx7] [zI y0] (mm_z hi dh nx ns) Q =
    (if y0 = 0 then mm_Wp 222 (mm_blk 222 3) [zR (40, 0, 0), vx1, zI x2, zI x3, zI x4, vx5, vx6, vx7] [] (mm_z hi dh nx ns) Q else mm_Cl 203 [zR (40, 0, 0), zI x4, zI x2, zI 2] (mm_z hi dh nx ns) (fun r h3 => mm_Wp 222 (bk_222_4.drop 5) [zR (40, 0, 0), vx1, zI x2, zI x3, zI x4, vx5, vx6, vx7] (mm_push r []) h3 Q)) :=
  (wp_41).trans (mm_ic ((wp_0).trans (rfl)) (mm_kb bq_222_4 ((wp_5_0).trans ((wp_3_4).trans ((wp_3_2).trans ((wp_1).trans ((wp_v4 mm_n_203 (mm_leq mm_m_203 (mm_lb rfl)) (mm_lb rfl) (mm_o40 hy)).trans rfl)))))))
theorem r_222_4_5 (vx1 : mm_V) (x2 : Int) (x3 : Int) (x4 : Int) (vx5 : mm_V) (vx6 : mm_V) (vx7 : mm_V) (y0 : Int) {hi : mm_Id → Int → Int} {dh : Int → Int} {nx ns : Int} {Q : mm_V → mm_H → Prop} (hy : 10581 ≤ nx) :
    mm_Wp 222 (bk_222_4.drop 5) [zR (40, 0, 0), vx1, zI x2, zI x3, zI x4, vx5, vx6, vx7] [zI y0] (mm_z hi dh nx ns) Q =
    (if y0 = 0 then Q (zI (-5)) (mm_z hi dh nx ns) else mm_Cl 179 [zR (40, 0, 0), zI x4, zI 28] (mm_z hi dh nx ns) (fun r h3 => mm_Wp 222 (bk_222_5.drop 4) [zR (40, 0, 0), vx1, zI x2, zI x3, zI x4, vx5, vx6, vx7] (mm_push r []) h3 Q)) :=
  (wp_41).trans (mm_ic ((wp_1).trans (wp_90)) (mm_kb bq_222_5 ((wp_5_0).trans ((wp_3_4).trans ((wp_1).trans ((wp_v3 mm_n_179 (mm_leq mm_m_179 (mm_lb rfl)) (mm_lb rfl) (mm_o40 hy)).trans rfl))))))
theorem r_222_5_4 (vx1 : mm_V) (x2 : Int) (x3 : Int) (x4 : Int) (vx5 : mm_V) (vx6 : mm_V) (vx7 : mm_V) {hi : mm_Id → Int → Int} {dh : Int → Int} {nx ns : Int} {Q : mm_V → mm_H → Prop} (hy : 10581 ≤ nx) :
    mm_Wp 222 (bk_222_5.drop 4) [zR (40, 0, 0), vx1, zI x2, zI x3, zI x4, vx5, vx6, vx7] [] (mm_z hi dh nx ns) Q =
    mm_Cl 175 [zI x4, zI x2] (mm_z hi dh nx ns) (fun r h3 => mm_Wp 222 (bk_222_5.drop 7) [zR (40, 0, 0), vx1, zI x2, zI x3, zI x4, vx5, vx6, vx7] (mm_push r []) h3 Q) :=
  (wp_3_4).trans ((wp_3_2).trans ((wp_s2 mm_n_175 (mm_leq mm_m_175 (mm_lb rfl)) (mm_lb rfl)).trans rfl))
theorem r_222_5_7 (vx1 : mm_V) (x2 : Int) (x3 : Int) (x4 : Int) (vx5 : mm_V) (vx6 : mm_V) (vx7 : mm_V) (y0 : Int) {hi : mm_Id → Int → Int} {dh : Int → Int} {nx ns : Int} {Q : mm_V → mm_H → Prop} (hy : 10581 ≤ nx) :
    mm_Wp 222 (bk_222_5.drop 7) [zR (40, 0, 0), vx1, zI x2, zI x3, zI x4, vx5, vx6, vx7] [zI y0] (mm_z hi dh nx ns) Q =
    ((0 ≤ y0 ∧ y0 < 1044) ∧ mm_Wp 222 (mm_blk 222 6) [zR (40, 0, 0), vx1, zI x2, zI x3, zI x4, zI y0, zI (hi (42, 0, 0) y0), zI (mm_w (Int.tdiv (mm_w ((mm_w (x3 + 60)) - 1)) 60))] [] (mm_z hi dh nx ns) Q) :=
  (wp_6 (l2 := [zR (40, 0, 0), vx1, zI x2, zI x3, zI x4, zI y0, vx6, vx7]) rfl).trans ((wp_5_0).trans ((wp_62 (by decide) (mm_o40 hy) (mm_r40_3 hy)).trans ((wp_3_5).trans ((wp_70 (mm_q42 hy)).trans (mm_ae ((wp_6 (l2 := [zR (40, 0, 0), vx1, zI x2, zI x3, zI x4, zI y0, zI (hi (42, 0, 0) y0), vx7]) rfl).trans ((wp_3_3).trans ((wp_1).trans ((wp_10).trans ((wp_1).trans ((wp_11).trans ((wp_1).trans ((wp_13 (by decide)).trans ((wp_6 (l2 := [zR (40, 0, 0), vx1, zI x2, zI x3, zI x4, zI y0, zI (hi (42, 0, 0) y0), zI (mm_w (Int.tdiv (mm_w ((mm_w (x3 + 60)) - 1)) 60))]) rfl).trans ((wp_0).trans (rfl))))))))))))))))
theorem r_222_6 (vx1 : mm_V) (x2 : Int) (x3 : Int) (x4 : Int) (x5 : Int) (x6 : Int) (x7 : Int) {hi : mm_Id → Int → Int} {dh : Int → Int} {nx ns : Int} {Q : mm_V → mm_H → Prop} (hy : 10581 ≤ nx) :
    mm_Wp 222 (mm_blk 222 6) [zR (40, 0, 0), vx1, zI x2, zI x3, zI x4, zI x5, zI x6, zI x7] [] (mm_z hi dh nx ns) Q =
    (if x7 < 36 then ((0 ≤ (mm_w ((mm_w (36 * x5)) + x7)) ∧ (mm_w ((mm_w (36 * x5)) + x7)) < 37584) ∧ mm_Wp 222 (mm_blk 222 6) [zR (40, 0, 0), vx1, zI x2, zI x3, zI x4, zI x5, zI x6, zI (mm_w (x7 + 1))] [] (mm_z (mm_up hi (43, 0, 0) (mm_w ((mm_w (36 * x5)) + x7)) 0) dh nx ns) Q) else (if x3 < x6 then (if 0 < (Int.tmod x3 60) then ((0 ≤ (mm_w ((mm_w (36 * x5)) + (mm_w (Int.tdiv x3 60)))) ∧ (mm_w ((mm_w (36 * x5)) + (mm_w (Int.tdiv x3 60)))) < 37584) ∧ (if 0 < (hi (43, 0, 0) (mm_w ((mm_w (36 * x5)) + (mm_w (Int.tdiv x3 60))))) then mm_Cl 219 [zR (40, 0, 0), zI x4, zI x2, zI (mm_w (Int.tdiv x3 60)), zI x3] (mm_z hi dh nx ns) (fun r h3 => mm_Wp 222 (bk_222_7.drop 26) [zR (40, 0, 0), vx1, zI x2, zI x3, zI x4, zI x5, zI x6, zI x7] (mm_push r []) h3 Q) else mm_Wp 222 (mm_blk 222 8) [zR (40, 0, 0), vx1, zI x2, zI x3, zI x4, zI x5, zI x6, zI x7] [] (mm_z hi dh nx ns) Q)) else mm_Wp 222 (mm_blk 222 8) [zR (40, 0, 0), vx1, zI x2, zI x3, zI x4, zI x5, zI x6, zI x7] [] (mm_z hi dh nx ns) Q) else mm_Wp 222 (mm_blk 222 8) [zR (40, 0, 0), vx1, zI x2, zI x3, zI x4, zI x5, zI x6, zI x7] [] (mm_z hi dh nx ns) Q)) :=
  mm_kb bq_222_6 ((wp_3_7).trans ((wp_1).trans ((wp_49).trans (mm_ic ((wp_5_0).trans ((wp_62 (by decide) (mm_o40 hy) (mm_r40_4 hy)).trans ((wp_1).trans ((wp_3_5).trans ((wp_12).trans ((wp_3_7).trans ((wp_10).trans ((wp_1).trans ((wp_74 (mm_q43 hy)).trans (mm_ae ((wp_9 (l2 := [zR (40, 0, 0), vx1, zI x2, zI x3, zI x4, zI x5, zI x6, zI (mm_w (x7 + 1))]) rfl rfl).trans ((wp_56).trans (rfl))))))))))))) (mm_kb bq_222_7 ((wp_3_3).trans ((wp_3_6).trans ((wp_49).trans (mm_ic ((wp_3_3).trans ((wp_1).trans ((wp_14 (by decide)).trans ((wp_45).trans (mm_ic ((wp_5_0).trans ((wp_62 (by decide) (mm_o40 hy) (mm_r40_4 hy)).trans ((wp_1).trans ((wp_3_5).trans ((wp_12).trans ((wp_3_3).trans ((wp_1).trans ((wp_13 (by decide)).trans ((wp_10).trans ((wp_70 (mm_q43 hy)).trans (mm_ae ((wp_45).trans (mm_ic ((wp_5_0).trans ((wp_3_4).trans ((wp_3_2).trans ((wp_3_3).trans ((wp_1).trans ((wp_13 (by decide)).trans ((wp_3_3).trans ((wp_v5 mm_n_219 (mm_leq mm_m_219 (mm_lb rfl)) (mm_lb rfl) (mm_o40 hy)).trans rfl)))))))) (rfl)))))))))))))) (rfl)))))) (rfl))))))))))
theorem r_222_8 (vx1 : mm_V) (vx2 : mm_V) (x3 : Int) (x4 : Int) (x5 : Int) (x6 : Int) (vx7 : mm_V) {hi : mm_Id → Int → Int} {dh : Int → Int} {nx ns : Int} {Q : mm_V → mm_H → Prop} (hy : 10581 ≤ nx) :
    mm_Wp 222 (mm_blk 222 8) [zR (40, 0, 0), vx1, vx2, zI x3, zI x4, zI x5, zI x6, vx7] [] (mm_z hi dh nx ns) Q =
    ((0 ≤ x5 ∧ x5 < 1044) ∧ mm_Cl 201 [zR (40, 0, 0), zI x4] (mm_z (mm_up hi (42, 0, 0) x5 x3) dh nx ns) (fun r h3 => mm_Wp 222 (bk_222_8.drop 8) [zR (40, 0, 0), vx1, vx2, zI x3, zI x4, zI x5, zI x6, vx7] (mm_push r []) h3 Q)) :=
  mm_kb bq_222_8 ((wp_5_0).trans ((wp_62 (by decide) (mm_o40 hy) (mm_r40_3 hy)).trans ((wp_3_5).trans ((wp_3_3).trans ((wp_74 (mm_q42 hy)).trans (mm_ae ((wp_5_0).trans ((wp_3_4).trans ((wp_v2 mm_n_201 (mm_leq mm_m_201 (mm_lb rfl)) (mm_lb rfl) (mm_o40 hy)).trans rfl)))))))))
theorem r_222_7_26 (vx1 : mm_V) (vx2 : mm_V) (x3 : Int) (x4 : Int) (x5 : Int) (x6 : Int) (vx7 : mm_V) (y0 : Int) {hi : mm_Id → Int → Int} {dh : Int → Int} {nx ns : Int} {Q : mm_V → mm_H → Prop} (hy : 10581 ≤ nx) :
    mm_Wp 222 (bk_222_7.drop 26) [zR (40, 0, 0), vx1, vx2, zI x3, zI x4, zI x5, zI x6, vx7] [zI y0] (mm_z hi dh nx ns) Q =
    mm_Wp 222 (mm_blk 222 8) [zR (40, 0, 0), vx1, vx2, zI x3, zI x4, zI x5, zI x6, zI y0] [] (mm_z hi dh nx ns) Q :=
  (wp_6 (l2 := [zR (40, 0, 0), vx1, vx2, zI x3, zI x4, zI x5, zI x6, zI y0]) rfl).trans ((wp_0).trans (rfl))
theorem r_222_8_8 (vx1 : mm_V) (vx2 : mm_V) (vx3 : mm_V) (x4 : Int) (vx5 : mm_V) (x6 : Int) (vx7 : mm_V) (y0 : Int) {hi : mm_Id → Int → Int} {dh : Int → Int} {nx ns : Int} {Q : mm_V → mm_H → Prop} (hy : 10581 ≤ nx) :
    mm_Wp 222 (bk_222_8.drop 8) [zR (40, 0, 0), vx1, vx2, vx3, zI x4, vx5, zI x6, vx7] [zI y0] (mm_z hi dh nx ns) Q =
    (if y0 = 0 then mm_Cl 179 [zR (40, 0, 0), zI 28, zI x4] (mm_z hi dh nx ns) (fun r h3 => mm_Wp 222 (bk_222_8.drop 13) [zR (40, 0, 0), vx1, vx2, vx3, zI x4, vx5, zI x6, vx7] (mm_push r []) h3 Q) else mm_Cl 209 [zR (40, 0, 0)] (mm_z hi dh nx ns) (fun r h3 => mm_Wp 222 (bk_222_9.drop 2) [zR (40, 0, 0), vx1, vx2, vx3, zI x4, vx5, zI x6, vx7] (mm_push r []) h3 Q)) :=
  (wp_41).trans (mm_ic ((wp_5_0).trans ((wp_1).trans ((wp_3_4).trans ((wp_v3 mm_n_179 (mm_leq mm_m_179 (mm_lb rfl)) (mm_lb rfl) (mm_o40 hy)).trans rfl)))) (mm_kb bq_222_9 ((wp_5_0).trans ((wp_v1 mm_n_209 (mm_leq mm_m_209 (mm_lb rfl)) (mm_lb rfl) (mm_o40 hy)).trans rfl))))
theorem r_222_9_2 (vx0 : mm_V) (vx1 : mm_V) (vx2 : mm_V) (vx3 : mm_V) (vx4 : mm_V) (vx5 : mm_V) (x6 : Int) (vx7 : mm_V) {hi : mm_Id → Int → Int} {dh : Int → Int} {nx ns : Int} {Q : mm_V → mm_H → Prop} (hy : 10581 ≤ nx) :
    mm_Wp 222 (bk_222_9.drop 2) [vx0, vx1, vx2, vx3, vx4, vx5, zI x6, vx7] [] (mm_z hi dh nx ns) Q =
    Q (zI x6) (mm_z hi dh nx ns) :=
  (wp_3_6).trans (wp_90)
theorem r_222_8_13 (vx0 : mm_V) (vx1 : mm_V) (vx2 : mm_V) (vx3 : mm_V) (vx4 : mm_V) (vx5 : mm_V) (vx6 : mm_V) (vx7 : mm_V) {hi : mm_Id → Int → Int} {dh : Int → Int} {nx ns : Int} {Q : mm_V → mm_H → Prop} (hy : 10581 ≤ nx) :
    mm_Wp 222 (bk_222_8.drop 13) [vx0, vx1, vx2, vx3, vx4, vx5, vx6, vx7] [] (mm_z hi dh nx ns) Q =
    Q (zI (-4)) (mm_z hi dh nx ns) :=
  (wp_1).trans (wp_90)
/-- PoolHouseModel.link(IIII)I -/
theorem bq_223_0 : mm_blk 223 0 = bk_223_0 := by decide +kernel
theorem bq_223_1 : mm_blk 223 1 = bk_223_1 := by decide +kernel
theorem bq_223_2 : mm_blk 223 2 = bk_223_2 := by decide +kernel
theorem bq_223_3 : mm_blk 223 3 = bk_223_3 := by decide +kernel
theorem bq_223_4 : mm_blk 223 4 = bk_223_4 := by decide +kernel
theorem bq_223_5 : mm_blk 223 5 = bk_223_5 := by decide +kernel
theorem bq_223_6 : mm_blk 223 6 = bk_223_6 := by decide +kernel
theorem bq_223_7 : mm_blk 223 7 = bk_223_7 := by decide +kernel
theorem bq_223_8 : mm_blk 223 8 = bk_223_8 := by decide +kernel
theorem bq_223_9 : mm_blk 223 9 = bk_223_9 := by decide +kernel
theorem r_223_e (x1 : Int) (x2 : Int) (x3 : Int) (x4 : Int) {hi : mm_Id → Int → Int} {dh : Int → Int} {nx ns : Int} {Q : mm_V → mm_H → Prop} (hy : 10581 ≤ nx) :
    mm_Cl 223 [zR (40, 0, 0), zI x1, zI x2, zI x3, zI x4] (mm_z hi dh nx ns) Q =
    mm_Cl 181 [zR (40, 0, 0), zI x1] (mm_z (mm_up hi (40, 0, 0) 0 0) dh nx ns) (fun r h3 => mm_Wp 223 (bk_223_0.drop 6) [zR (40, 0, 0), zI x1, zI x2, zI x3, zI x4, zU, zU] (mm_push r []) h3 Q) :=
  mm_ce (l2 := [zR (40, 0, 0), zI x1, zI x2, zI x3, zI x4, zU, zU]) rfl (mm_kb bq_223_0 ((wp_5_0).trans ((wp_1).trans ((wp_63 (mm_o40 hy)).trans ((wp_5_0).trans ((wp_3_1).trans ((wp_v2 mm_n_181 (mm_leq mm_m_181 (mm_lb rfl)) (mm_lb rfl) (mm_o40 hy)).trans rfl)))))))
theorem r_223_0_6 (vx1 : mm_V) (x2 : Int) (x3 : Int) (x4 : Int) (vx5 : mm_V) (vx6 : mm_V) (y0 : Int) {hi : mm_Id → Int → Int} {dh : Int → Int} {nx ns : Int} {Q : mm_V → mm_H → Prop} (hy : 10581 ≤ nx) :
    mm_Wp 223 (bk_223_0.drop 6) [zR (40, 0, 0), vx1, zI x2, zI x3, zI x4, vx5, vx6] [zI y0] (mm_z hi dh nx ns) Q =
    mm_Cl 210 [zR (40, 0, 0), zI y0, zI x2] (mm_z hi dh nx ns) (fun r h3 => mm_Wp 223 (bk_223_0.drop 11) [zR (40, 0, 0), vx1, zI x2, zI x3, zI x4, zI y0, vx6] (mm_push r []) h3 Q) :=
  (wp_6 (l2 := [zR (40, 0, 0), vx1, zI x2, zI x3, zI x4, zI y0, vx6]) rfl).trans ((wp_5_0).trans ((wp_3_5).trans ((wp_3_2).trans ((wp_v3 mm_n_210 (mm_leq mm_m_210 (mm_lb rfl)) (mm_lb rfl) (mm_o40 hy)).trans rfl))))
theorem r_223_0_11 (vx1 : mm_V) (x2 : Int) (x3 : Int) (x4 : Int) (x5 : Int) (vx6 : mm_V) (y0 : Int) {hi : mm_Id → Int → Int} {dh : Int → Int} {nx ns : Int} {Q : mm_V → mm_H → Prop} (hy : 10581 ≤ nx) :
    mm_Wp 223 (bk_223_0.drop 11) [zR (40, 0, 0), vx1, zI x2, zI x3, zI x4, zI x5, vx6] [zI y0] (mm_z hi dh nx ns) Q =
    (if y0 = 0 then mm_Wp 223 (mm_blk 223 1) [zR (40, 0, 0), vx1, zI x2, zI x3, zI x4, zI x5, vx6] [] (mm_z hi dh nx ns) Q else mm_Cl 176 [zR (40, 0, 0), zI x5, zI x3] (mm_z hi dh nx ns) (fun r h3 => mm_Wp 223 (bk_223_0.drop 16) [zR (40, 0, 0), vx1, zI x2, zI x3, zI x4, zI x5, vx6] (mm_push r []) h3 Q)) :=
  (wp_40).trans (mm_ic (rfl) ((wp_5_0).trans ((wp_3_5).trans ((wp_3_3).trans ((wp_v3 mm_n_176 (mm_leq mm_m_176 (mm_lb rfl)) (mm_lb rfl) (mm_o40 hy)).trans rfl)))))
theorem r_223_1 (vx0 : mm_V) (vx1 : mm_V) (vx2 : mm_V) (vx3 : mm_V) (vx4 : mm_V) (vx5 : mm_V) (vx6 : mm_V) {hi : mm_Id → Int → Int} {dh : Int → Int} {nx ns : Int} {Q : mm_V → mm_H → Prop} (hy : 10581 ≤ nx) :
    mm_Wp 223 (mm_blk 223 1) [vx0, vx1, vx2, vx3, vx4, vx5, vx6] [] (mm_z hi dh nx ns) Q =
    Q (zI (-1)) (mm_z hi dh nx ns) :=
  mm_kb bq_223_1 ((wp_1).trans (wp_90))
theorem r_223_0_16 (vx1 : mm_V) (x2 : Int) (x3 : Int) (x4 : Int) (x5 : Int) (vx6 : mm_V) (y0 : Int) {hi : mm_Id → Int → Int} {dh : Int → Int} {nx ns : Int} {Q : mm_V → mm_H → Prop} (hy : 10581 ≤ nx) :
    mm_Wp 223 (bk_223_0.drop 16) [zR (40, 0, 0), vx1, zI x2, zI x3, zI x4, zI x5, vx6] [zI y0] (mm_z hi dh nx ns) Q =
    (if y0 = 0 then mm_Wp 223 (mm_blk 223 1) [zR (40, 0, 0), vx1, zI x2, zI x3, zI x4, zI x5, vx6] [] (mm_z hi dh nx ns) Q else mm_Cl 174 [zL x4, zL 1, zL 1000000] (mm_z hi dh nx ns) (fun r h3 => mm_Wp 223 (bk_223_2.drop 5) [zR (40, 0, 0), vx1, zI x2, zI x3, zI x4, zI x5, vx6] (mm_push r []) h3 Q)) :=
  (wp_41).trans (mm_ic ((wp_0).trans (rfl)) (mm_kb bq_223_2 ((wp_3_4).trans ((wp_31).trans ((wp_2).trans ((wp_2).trans ((wp_s3 mm_n_174 (mm_leq mm_m_174 (mm_lb rfl)) (mm_lb rfl)).trans rfl)))))))
theorem r_223_2_5 (vx1 : mm_V) (x2 : Int) (x3 : Int) (x4 : Int) (x5 : Int) (vx6 : mm_V) (y0 : Int) {hi : mm_Id → Int → Int} {dh : Int → Int} {nx ns : Int} {Q : mm_V → mm_H → Prop} (hy : 10581 ≤ nx) :
    mm_Wp 223 (bk_223_2.drop 5) [zR (40, 0, 0), vx1, zI x2, zI x3, zI x4, zI x5, vx6] [zI y0] (mm_z hi dh nx ns) Q =
    (if y0 = 0 then Q (zI (-2)) (mm_z hi dh nx ns) else (if x5 < 5 then mm_Cl 177 [zR (40, 0, 0), zI x5, zI x2] (mm_z hi dh nx ns) (fun r h3 => mm_Wp 223 (bk_223_3.drop 7) [zR (40, 0, 0), vx1, zI x2, zI x3, zI x4, zI x5, vx6] (mm_push r []) h3 Q) else mm_Wp 223 (mm_blk 223 4) [zR (40, 0, 0), vx1, zI x2, zI x3, zI x4, zI x5, vx6] [] (mm_z hi dh nx ns) Q)) :=
  (wp_41).trans (mm_ic ((wp_1).trans (wp_90)) (mm_kb bq_223_3 ((wp_3_5).trans ((wp_1).trans ((wp_49).trans (mm_ic ((wp_5_0).trans ((wp_3_5).trans ((wp_3_2).trans ((wp_v3 mm_n_177 (mm_leq mm_m_177 (mm_lb rfl)) (mm_lb rfl) (mm_o40 hy)).trans rfl)))) (rfl)))))))
theorem r_223_4 (vx0 : mm_V) (vx1 : mm_V) (vx2 : mm_V) (vx3 : mm_V) (vx4 : mm_V) (vx5 : mm_V) (vx6 : mm_V) {hi : mm_Id → Int → Int} {dh : Int → Int} {nx ns : Int} {Q : mm_V → mm_H → Prop} (hy : 10581 ≤ nx) :
    mm_Wp 223 (mm_blk 223 4) [vx0, vx1, vx2, vx3, vx4, vx5, vx6] [] (mm_z hi dh nx ns) Q =
    Q (zI (-3)) (mm_z hi dh nx ns) :=
  mm_kb bq_223_4 ((wp_1).trans (wp_90))
theorem r_223_3_7 (vx1 : mm_V) (x2 : Int) (x3 : Int) (x4 : Int) (x5 : Int) (vx6 : mm_V) (y0 : Int) {hi : mm_Id → Int → Int} {dh : Int → Int} {nx ns : Int} {Q : mm_V → mm_H → Prop} (hy : 10581 ≤ nx) :
    mm_Wp 223 (bk_223_3.drop 7) [zR (40, 0, 0), vx1, zI x2, zI x3, zI x4, zI x5, vx6] [zI y0] (mm_z hi dh nx ns) Q =
    (if y0 = 0 then mm_Wp 223 (mm_blk 223 4) [zR (40, 0, 0), vx1, zI x2, zI x3, zI x4, zI x5, vx6] [] (mm_z hi dh nx ns) Q else mm_Cl 211 [zR (40, 0, 0), zI x5, zI x3] (mm_z hi dh nx ns) (fun r h3 => mm_Wp 223 (bk_223_3.drop 12) [zR (40, 0, 0), vx1, zI x2, zI x3, zI x4, zI x5, vx6] (mm_push r []) h3 Q)) :=
  (wp_40).trans (mm_ic (rfl) ((wp_5_0).trans ((wp_3_5).trans ((wp_3_3).trans ((wp_v3 mm_n_211 (mm_leq mm_m_211 (mm_lb rfl)) (mm_lb rfl) (mm_o40 hy)).trans rfl)))))
theorem r_223_3_12 (vx1 : mm_V) (x2 : Int) (x3 : Int) (x4 : Int) (x5 : Int) (vx6 : mm_V) (y0 : Int) {hi : mm_Id → Int → Int} {dh : Int → Int} {nx ns : Int} {Q : mm_V → mm_H → Prop} (hy : 10581 ≤ nx) :
    mm_Wp 223 (bk_223_3.drop 12) [zR (40, 0, 0), vx1, zI x2, zI x3, zI x4, zI x5, vx6] [zI y0] (mm_z hi dh nx ns) Q =
    (if y0 = 0 then mm_Wp 223 (mm_blk 223 4) [zR (40, 0, 0), vx1, zI x2, zI x3, zI x4, zI x5, vx6] [] (mm_z hi dh nx ns) Q else mm_Cl 204 [zR (40, 0, 0), zI x5, zI x3] (mm_z hi dh nx ns) (fun r h3 => mm_Wp 223 (bk_223_5.drop 4) [zR (40, 0, 0), vx1, zI x2, zI x3, zI x4, zI x5, vx6] (mm_push r []) h3 Q)) :=
  (wp_41).trans (mm_ic ((wp_0).trans (rfl)) (mm_kb bq_223_5 ((wp_5_0).trans ((wp_3_5).trans ((wp_3_3).trans ((wp_v3 mm_n_204 (mm_leq mm_m_204 (mm_lb rfl)) (mm_lb rfl) (mm_o40 hy)).trans rfl))))))
theorem r_223_5_4 (vx1 : mm_V) (x2 : Int) (x3 : Int) (x4 : Int) (x5 : Int) (vx6 : mm_V) (y0 : Int) {hi : mm_Id → Int → Int} {dh : Int → Int} {nx ns : Int} {Q : mm_V → mm_H → Prop} (hy : 10581 ≤ nx) :
    mm_Wp 223 (bk_223_5.drop 4) [zR (40, 0, 0), vx1, zI x2, zI x3, zI x4, zI x5, vx6] [zI y0] (mm_z hi dh nx ns) Q =
    (if y0 = 0 then Q (zI (-5)) (mm_z hi dh nx ns) else mm_Cl 184 [zR (40, 0, 0), zI x5, zI x3, zI x4] (mm_z hi dh nx ns) (fun r h3 => mm_Wp 223 (bk_223_6.drop 5) [zR (40, 0, 0), vx1, zI x2, zI x3, zI x4, zI x5, vx6] (mm_push r []) h3 Q)) :=
  (wp_41).trans (mm_ic ((wp_1).trans (wp_90)) (mm_kb bq_223_6 ((wp_5_0).trans ((wp_3_5).trans ((wp_3_3).trans ((wp_3_4).trans ((wp_v4 mm_n_184 (mm_leq mm_m_184 (mm_lb rfl)) (mm_lb rfl) (mm_o40 hy)).trans rfl)))))))
theorem r_223_6_5 (vx1 : mm_V) (x2 : Int) (x3 : Int) (x4 : Int) (x5 : Int) (vx6 : mm_V) (y0 : Int) {hi : mm_Id → Int → Int} {dh : Int → Int} {nx ns : Int} {Q : mm_V → mm_H → Prop} (hy : 10581 ≤ nx) :
    mm_Wp 223 (bk_223_6.drop 5) [zR (40, 0, 0), vx1, zI x2, zI x3, zI x4, zI x5, vx6] [zI y0] (mm_z hi dh nx ns) Q =
    (if y0 < 0 then mm_Cl 188 [zR (40, 0, 0), zI x5, zI x2] (mm_z hi dh nx ns) (fun r h3 => mm_Wp 223 (bk_223_7.drop 4) [zR (40, 0, 0), vx1, zI x2, zI x3, zI x4, zI x5, vx6] (mm_push r []) h3 Q) else Q (zI (-3)) (mm_z hi dh nx ns)) :=
  (wp_42).trans (mm_ic (mm_kb bq_223_7 ((wp_5_0).trans ((wp_3_5).trans ((wp_3_2).trans ((wp_v3 mm_n_188 (mm_leq mm_m_188 (mm_lb rfl)) (mm_lb rfl) (mm_o40 hy)).trans rfl))))) ((wp_1).trans (wp_90)))
theorem r_223_7_4 (vx1 : mm_V) (x2 : Int) (x3 : Int) (x4 : Int) (x5 : Int) (vx6 : mm_V) (y0 : Int) {hi : mm_Id → Int → Int} {dh : Int → Int} {nx ns : Int} {Q : mm_V → mm_H → Prop} (hy : 10581 ≤ nx) :
    mm_Wp 223 (bk_223_7.drop 4) [zR (40, 0, 0), vx1, zI x2, zI x3, zI x4, zI x5, vx6] [zI y0] (mm_z hi dh nx ns) Q =
    (if y0 = 9 then mm_Wp 223 (mm_blk 223 8) [zR (40, 0, 0), vx1, zI x2, zI x3, zI x4, zI x5, zI y0] [] (mm_z hi dh nx ns) Q else mm_Cl 175 [zI x5, zI x3] (mm_z hi dh nx ns) (fun r h3 => mm_Wp 223 (bk_223_7.drop 13) [zR (40, 0, 0), vx1, zI x2, zI x3, zI x4, zI x5, zI y0] (mm_push r [zR (44, 0, 0)]) h3 Q)) :=
  (wp_6 (l2 := [zR (40, 0, 0), vx1, zI x2, zI x3, zI x4, zI x5, zI y0]) rfl).trans ((wp_3_6).trans ((wp_1).trans ((wp_46).trans (mm_ic (rfl) ((wp_5_0).trans ((wp_62 (by decide) (mm_o40 hy) (mm_r40_5 hy)).trans ((wp_3_5).trans ((wp_3_3).trans ((wp_s2 mm_n_175 (mm_leq mm_m_175 (mm_lb rfl)) (mm_lb rfl)).trans rfl)))))))))
theorem r_223_8 (vx0 : mm_V) (vx1 : mm_V) (vx2 : mm_V) (vx3 : mm_V) (vx4 : mm_V) (vx5 : mm_V) (vx6 : mm_V) {hi : mm_Id → Int → Int} {dh : Int → Int} {nx ns : Int} {Q : mm_V → mm_H → Prop} (hy : 10581 ≤ nx) :
    mm_Wp 223 (mm_blk 223 8) [vx0, vx1, vx2, vx3, vx4, vx5, vx6] [] (mm_z hi dh nx ns) Q =
    Q (zI (-4)) (mm_z hi dh nx ns) :=
  mm_kb bq_223_8 ((wp_1).trans (wp_90))
theorem r_223_7_13 (vx1 : mm_V) (x2 : Int) (x3 : Int) (x4 : Int) (x5 : Int) (x6 : Int) (y0 : Int) {hi : mm_Id → Int → Int} {dh : Int → Int} {nx ns : Int} {Q : mm_V → mm_H → Prop} (hy : 10581 ≤ nx) :
    mm_Wp 223 (bk_223_7.drop 13) [zR (40, 0, 0), vx1, zI x2, zI x3, zI x4, zI x5, zI x6] [zI y0, zR (44, 0, 0)] (mm_z hi dh nx ns) Q =
    ((0 ≤ y0 ∧ y0 < 1044) ∧ (if (hi (44, 0, 0) y0) = 24 then mm_Wp 223 (mm_blk 223 8) [zR (40, 0, 0), vx1, zI x2, zI x3, zI x4, zI x5, zI x6] [] (mm_z hi dh nx ns) Q else mm_Cl 186 [zR (40, 0, 0), zI x5, zI x3, zI x4, zI x2] (mm_z hi dh nx ns) (fun r h3 => mm_Wp 223 (bk_223_9.drop 6) [zR (40, 0, 0), vx1, zI x2, zI x3, zI x4, zI x5, zI x6] (mm_push r []) h3 Q))) :=
  (wp_70 (mm_q44 hy)).trans (mm_ae ((wp_1).trans ((wp_47).trans (mm_ic ((wp_0).trans (rfl)) (mm_kb bq_223_9 ((wp_5_0).trans ((wp_3_5).trans ((wp_3_3).trans ((wp_3_4).trans ((wp_3_2).trans ((wp_v5 mm_n_186 (mm_leq mm_m_186 (mm_lb rfl)) (mm_lb rfl) (mm_o40 hy)).trans rfl)))))))))))
theorem r_223_9_6 (vx1 : mm_V) (vx2 : mm_V) (vx3 : mm_V) (vx4 : mm_V) (vx5 : mm_V) (x6 : Int) {hi : mm_Id → Int → Int} {dh : Int → Int} {nx ns : Int} {Q : mm_V → mm_H → Prop} (hy : 10581 ≤ nx) :
    mm_Wp 223 (bk_223_9.drop 6) [zR (40, 0, 0), vx1, vx2, vx3, vx4, vx5, zI x6] [] (mm_z hi dh nx ns) Q =
    mm_Cl 209 [zR (40, 0, 0)] (mm_z hi dh nx ns) (fun r h3 => mm_Wp 223 (bk_223_9.drop 8) [zR (40, 0, 0), vx1, vx2, vx3, vx4, vx5, zI x6] (mm_push r []) h3 Q) :=
  (wp_5_0).trans ((wp_v1 mm_n_209 (mm_leq mm_m_209 (mm_lb rfl)) (mm_lb rfl) (mm_o40 hy)).trans rfl)
theorem r_223_9_8 (vx0 : mm_V) (vx1 : mm_V) (vx2 : mm_V) (vx3 : mm_V) (vx4 : mm_V) (vx5 : mm_V) (x6 : Int) {hi : mm_Id → Int → Int} {dh : Int → Int} {nx ns : Int} {Q : mm_V → mm_H → Prop} (hy : 10581 ≤ nx) :
    mm_Wp 223 (bk_223_9.drop 8) [vx0, vx1, vx2, vx3, vx4, vx5, zI x6] [] (mm_z hi dh nx ns) Q =
    Q (zI (mm_w (x6 + 1))) (mm_z hi dh nx ns) :=
  (wp_3_6).trans ((wp_1).trans ((wp_10).trans (wp_90)))
/-- PoolHouseModel.takeOut(III)V -/
theorem bq_224_0 : mm_blk 224 0 = bk_224_0 := by decide +kernel
theorem bq_224_1 : mm_blk 224 1 = bk_224_1 := by decide +kernel
theorem r_224_e (x1 : Int) (x2 : Int) (x3 : Int) {hi : mm_Id → Int → Int} {dh : Int → Int} {nx ns : Int} {Q : mm_V → mm_H → Prop} (hy : 10581 ≤ nx) :
    mm_Cl 224 [zR (40, 0, 0), zI x1, zI x2, zI x3] (mm_z hi dh nx ns) Q =
    mm_Cl 185 [zR (40, 0, 0), zI x1, zI x2, zI x3] (mm_z hi dh nx ns) (fun r h3 => mm_Wp 224 (bk_224_0.drop 5) [zR (40, 0, 0), zI x1, zI x2, zI x3, zU] (mm_push r []) h3 Q) :=
  mm_ce (l2 := [zR (40, 0, 0), zI x1, zI x2, zI x3, zU]) rfl (mm_kb bq_224_0 ((wp_5_0).trans ((wp_3_1).trans ((wp_3_2).trans ((wp_3_3).trans ((wp_v4 mm_n_185 (mm_leq mm_m_185 (mm_lb rfl)) (mm_lb rfl) (mm_o40 hy)).trans rfl))))))
theorem r_224_0_5 (x1 : Int) (x2 : Int) (x3 : Int) (vx4 : mm_V) (y0 : Int) {hi : mm_Id → Int → Int} {dh : Int → Int} {nx ns : Int} {Q : mm_V → mm_H → Prop} (hy : 10581 ≤ nx) :
    mm_Wp 224 (bk_224_0.drop 5) [zR (40, 0, 0), zI x1, zI x2, zI x3, vx4] [zI y0] (mm_z hi dh nx ns) Q =
    mm_Cl 187 [zR (40, 0, 0), zI x1, zI x2, zI x3] (mm_z hi dh nx ns) (fun r h3 => mm_Wp 224 (bk_224_0.drop 11) [zR (40, 0, 0), zI x1, zI x2, zI x3, zI y0] (mm_push r []) h3 Q) :=
  (wp_6 (l2 := [zR (40, 0, 0), zI x1, zI x2, zI x3, zI y0]) rfl).trans ((wp_5_0).trans ((wp_3_1).trans ((wp_3_2).trans ((wp_3_3).trans ((wp_v4 mm_n_187 (mm_leq mm_m_187 (mm_lb rfl)) (mm_lb rfl) (mm_o40 hy)).trans rfl)))))
theorem r_224_0_11 (x1 : Int) (vx2 : mm_V) (vx3 : mm_V) (x4 : Int) {hi : mm_Id → Int → Int} {dh : Int → Int} {nx ns : Int} {Q : mm_V → mm_H → Prop} (hy : 10581 ≤ nx) :
    mm_Wp 224 (bk_224_0.drop 11) [zR (40, 0, 0), zI x1, vx2, vx3, zI x4] [] (mm_z hi dh nx ns) Q =
    mm_Cl 177 [zR (40, 0, 0), zI x1, zI x4] (mm_z hi dh nx ns) (fun r h3 => mm_Wp 224 (bk_224_0.drop 15) [zR (40, 0, 0), zI x1, vx2, vx3, zI x4] (mm_push r []) h3 Q) :=
  (wp_5_0).trans ((wp_3_1).trans ((wp_3_4).trans ((wp_v3 mm_n_177 (mm_leq mm_m_177 (mm_lb rfl)) (mm_lb rfl) (mm_o40 hy)).trans rfl)))
theorem r_224_0_15 (x1 : Int) (vx2 : mm_V) (vx3 : mm_V) (x4 : Int) (y0 : Int) {hi : mm_Id → Int → Int} {dh : Int → Int} {nx ns : Int} {Q : mm_V → mm_H → Prop} (hy : 10581 ≤ nx) :
    mm_Wp 224 (bk_224_0.drop 15) [zR (40, 0, 0), zI x1, vx2, vx3, zI x4] [zI y0] (mm_z hi dh nx ns) Q =
    (if y0 = 0 then mm_Cl 175 [zI x1, zI x4] (mm_z hi dh nx ns) (fun r h3 => mm_Wp 224 (bk_224_0.drop 20) [zR (40, 0, 0), zI x1, vx2, vx3, zI x4] (mm_push r [zR (40, 0, 0)]) h3 Q) else mm_Wp 224 (mm_blk 224 1) [zR (40, 0, 0), zI x1, vx2, vx3, zI x4] [] (mm_z hi dh nx ns) Q) :=
  (wp_41).trans (mm_ic ((wp_5_0).trans ((wp_3_1).trans ((wp_3_4).trans ((wp_s2 mm_n_175 (mm_leq mm_m_175 (mm_lb rfl)) (mm_lb rfl)).trans rfl)))) (rfl))
theorem r_224_1 (vx0 : mm_V) (vx1 : mm_V) (vx2 : mm_V) (vx3 : mm_V) (vx4 : mm_V) {hi : mm_Id → Int → Int} {dh : Int → Int} {nx ns : Int} {Q : mm_V → mm_H → Prop} (hy : 10581 ≤ nx) :
    mm_Wp 224 (mm_blk 224 1) [vx0, vx1, vx2, vx3, vx4] [] (mm_z hi dh nx ns) Q =
    Q zU (mm_z hi dh nx ns) :=
  mm_kb bq_224_1 (wp_93)
theorem r_224_0_20 (vx0 : mm_V) (vx1 : mm_V) (vx2 : mm_V) (vx3 : mm_V) (vx4 : mm_V) (y0 : Int) {hi : mm_Id → Int → Int} {dh : Int → Int} {nx ns : Int} {Q : mm_V → mm_H → Prop} (hy : 10581 ≤ nx) :
    mm_Wp 224 (bk_224_0.drop 20) [vx0, vx1, vx2, vx3, vx4] [zI y0, zR (40, 0, 0)] (mm_z hi dh nx ns) Q =
    mm_Cl 180 [zR (40, 0, 0), zI y0] (mm_z hi dh nx ns) (fun r h3 => mm_Wp 224 (bk_224_0.drop 21) [vx0, vx1, vx2, vx3, vx4] (mm_push r []) h3 Q) :=
  (wp_v2 mm_n_180 (mm_leq mm_m_180 (mm_lb rfl)) (mm_lb rfl) (mm_o40 hy)).trans rfl
theorem r_224_0_21 (vx0 : mm_V) (vx1 : mm_V) (vx2 : mm_V) (vx3 : mm_V) (vx4 : mm_V) {hi : mm_Id → Int → Int} {dh : Int → Int} {nx ns : Int} {Q : mm_V → mm_H → Prop} (hy : 10581 ≤ nx) :
    mm_Wp 224 (bk_224_0.drop 21) [vx0, vx1, vx2, vx3, vx4] [] (mm_z hi dh nx ns) Q =
    mm_Wp 224 (mm_blk 224 1) [vx0, vx1, vx2, vx3, vx4] [] (mm_z hi dh nx ns) Q :=
  (wp_0).trans (rfl)
/-- PoolHouseModel.unlink(III)I -/
theorem bq_225_0 : mm_blk 225 0 = bk_225_0 := by decide +kernel
theorem bq_225_1 : mm_blk 225 1 = bk_225_1 := by decide +kernel
theorem bq_225_2 : mm_blk 225 2 = bk_225_2 := by decide +kernel
theorem bq_225_3 : mm_blk 225 3 = bk_225_3 := by decide +kernel
theorem bq_225_4 : mm_blk 225 4 = bk_225_4 := by decide +kernel
theorem bq_225_5 : mm_blk 225 5 = bk_225_5 := by decide +kernel
theorem bq_225_6 : mm_blk 225 6 = bk_225_6 := by decide +kernel
theorem bq_225_7 : mm_blk 225 7 = bk_225_7 := by decide +kernel
theorem r_225_e (x1 : Int) (x2 : Int) (x3 : Int) {hi : mm_Id → Int → Int} {dh : Int → Int} {nx ns : Int} {Q : mm_V → mm_H → Prop} (hy : 10581 ≤ nx) :
    mm_Cl 225 [zR (40, 0, 0), zI x1, zI x2, zI x3] (mm_z hi dh nx ns) Q =
    mm_Cl 181 [zR (40, 0, 0), zI x1] (mm_z (mm_up hi (40, 0, 0) 0 0) dh nx ns) (fun r h3 => mm_Wp 225 (bk_225_0.drop 6) [zR (40, 0, 0), zI x1, zI x2, zI x3, zU, zU, zU] (mm_push r []) h3 Q) :=
  mm_ce (l2 := [zR (40, 0, 0), zI x1, zI x2, zI x3, zU, zU, zU]) rfl (mm_kb bq_225_0 ((wp_5_0).trans ((wp_1).trans ((wp_63 (mm_o40 hy)).trans ((wp_5_0).trans ((wp_3_1).trans ((wp_v2 mm_n_181 (mm_leq mm_m_181 (mm_lb rfl)) (mm_lb rfl) (mm_o40 hy)).trans rfl)))))))
theorem r_225_0_6 (vx1 : mm_V) (x2 : Int) (x3 : Int) (vx4 : mm_V) (vx5 : mm_V) (vx6 : mm_V) (y0 : Int) {hi : mm_Id → Int → Int} {dh : Int → Int} {nx ns : Int} {Q : mm_V → mm_H → Prop} (hy : 10581 ≤ nx) :
    mm_Wp 225 (bk_225_0.drop 6) [zR (40, 0, 0), vx1, zI x2, zI x3, vx4, vx5, vx6] [zI y0] (mm_z hi dh nx ns) Q =
    mm_Cl 210 [zR (40, 0, 0), zI y0, zI x2] (mm_z hi dh nx ns) (fun r h3 => mm_Wp 225 (bk_225_0.drop 11) [zR (40, 0, 0), vx1, zI x2, zI x3, zI y0, vx5, vx6] (mm_push r []) h3 Q) :=
  (wp_6 (l2 := [zR (40, 0, 0), vx1, zI x2, zI x3, zI y0, vx5, vx6]) rfl).trans ((wp_5_0).trans ((wp_3_4).trans ((wp_3_2).trans ((wp_v3 mm_n_210 (mm_leq mm_m_210 (mm_lb rfl)) (mm_lb rfl) (mm_o40 hy)).trans rfl))))
theorem r_225_0_11 (vx1 : mm_V) (x2 : Int) (x3 : Int) (x4 : Int) (vx5 : mm_V) (vx6 : mm_V) (y0 : Int) {hi : mm_Id → Int → Int} {dh : Int → Int} {nx ns : Int} {Q : mm_V → mm_H → Prop} (hy : 10581 ≤ nx) :
    mm_Wp 225 (bk_225_0.drop 11) [zR (40, 0, 0), vx1, zI x2, zI x3, zI x4, vx5, vx6] [zI y0] (mm_z hi dh nx ns) Q =
    (if y0 = 0 then Q (zI (-1)) (mm_z hi dh nx ns) else mm_Cl 174 [zL x3, zL 1, zL 1000000] (mm_z hi dh nx ns) (fun r h3 => mm_Wp 225 (bk_225_1.drop 5) [zR (40, 0, 0), vx1, zI x2, zI x3, zI x4, vx5, vx6] (mm_push r []) h3 Q)) :=
  (wp_41).trans (mm_ic ((wp_1).trans (wp_90)) (mm_kb bq_225_1 ((wp_3_3).trans ((wp_31).trans ((wp_2).trans ((wp_2).trans ((wp_s3 mm_n_174 (mm_leq mm_m_174 (mm_lb rfl)) (mm_lb rfl)).trans rfl)))))))
theorem r_225_1_5 (vx1 : mm_V) (x2 : Int) (x3 : Int) (x4 : Int) (vx5 : mm_V) (vx6 : mm_V) (y0 : Int) {hi : mm_Id → Int → Int} {dh : Int → Int} {nx ns : Int} {Q : mm_V → mm_H → Prop} (hy : 10581 ≤ nx) :
    mm_Wp 225 (bk_225_1.drop 5) [zR (40, 0, 0), vx1, zI x2, zI x3, zI x4, vx5, vx6] [zI y0] (mm_z hi dh nx ns) Q =
    (if y0 = 0 then Q (zI (-2)) (mm_z hi dh nx ns) else (if x4 < 5 then mm_Cl 211 [zR (40, 0, 0), zI x4, zI x2] (mm_z hi dh nx ns) (fun r h3 => mm_Wp 225 (bk_225_2.drop 7) [zR (40, 0, 0), vx1, zI x2, zI x3, zI x4, vx5, vx6] (mm_push r []) h3 Q) else mm_Wp 225 (mm_blk 225 3) [zR (40, 0, 0), vx1, zI x2, zI x3, zI x4, vx5, vx6] [] (mm_z hi dh nx ns) Q)) :=
  (wp_41).trans (mm_ic ((wp_1).trans (wp_90)) (mm_kb bq_225_2 ((wp_3_4).trans ((wp_1).trans ((wp_49).trans (mm_ic ((wp_5_0).trans ((wp_3_4).trans ((wp_3_2).trans ((wp_v3 mm_n_211 (mm_leq mm_m_211 (mm_lb rfl)) (mm_lb rfl) (mm_o40 hy)).trans rfl)))) (rfl)))))))
theorem r_225_3 (vx0 : mm_V) (vx1 : mm_V) (vx2 : mm_V) (vx3 : mm_V) (vx4 : mm_V) (vx5 : mm_V) (vx6 : mm_V) {hi : mm_Id → Int → Int} {dh : Int → Int} {nx ns : Int} {Q : mm_V → mm_H → Prop} (hy : 10581 ≤ nx) :
    mm_Wp 225 (mm_blk 225 3) [vx0, vx1, vx2, vx3, vx4, vx5, vx6] [] (mm_z hi dh nx ns) Q =
    Q (zI (-3)) (mm_z hi dh nx ns) :=
  mm_kb bq_225_3 ((wp_1).trans (wp_90))
theorem r_225_2_7 (vx1 : mm_V) (x2 : Int) (x3 : Int) (x4 : Int) (vx5 : mm_V) (vx6 : mm_V) (y0 : Int) {hi : mm_Id → Int → Int} {dh : Int → Int} {nx ns : Int} {Q : mm_V → mm_H → Prop} (hy : 10581 ≤ nx) :
    mm_Wp 225 (bk_225_2.drop 7) [zR (40, 0, 0), vx1, zI x2, zI x3, zI x4, vx5, vx6] [zI y0] (mm_z hi dh nx ns) Q =
    (if y0 = 0 then mm_Wp 225 (mm_blk 225 3) [zR (40, 0, 0), vx1, zI x2, zI x3, zI x4, vx5, vx6] [] (mm_z hi dh nx ns) Q else mm_Cl 204 [zR (40, 0, 0), zI x4, zI x2] (mm_z hi dh nx ns) (fun r h3 => mm_Wp 225 (bk_225_4.drop 4) [zR (40, 0, 0), vx1, zI x2, zI x3, zI x4, vx5, vx6] (mm_push r []) h3 Q)) :=
  (wp_41).trans (mm_ic ((wp_0).trans (rfl)) (mm_kb bq_225_4 ((wp_5_0).trans ((wp_3_4).trans ((wp_3_2).trans ((wp_v3 mm_n_204 (mm_leq mm_m_204 (mm_lb rfl)) (mm_lb rfl) (mm_o40 hy)).trans rfl))))))
theorem r_225_4_4 (vx1 : mm_V) (x2 : Int) (x3 : Int) (x4 : Int) (vx5 : mm_V) (vx6 : mm_V) (y0 : Int) {hi : mm_Id → Int → Int} {dh : Int → Int} {nx ns : Int} {Q : mm_V → mm_H → Prop} (hy : 10581 ≤ nx) :
    mm_Wp 225 (bk_225_4.drop 4) [zR (40, 0, 0), vx1, zI x2, zI x3, zI x4, vx5, vx6] [zI y0] (mm_z hi dh nx ns) Q =
    (if y0 = 0 then Q (zI (-5)) (mm_z hi dh nx ns) else mm_Cl 184 [zR (40, 0, 0), zI x4, zI x2, zI x3] (mm_z hi dh nx ns) (fun r h3 => mm_Wp 225 (bk_225_5.drop 5) [zR (40, 0, 0), vx1, zI x2, zI x3, zI x4, vx5, vx6] (mm_push r []) h3 Q)) :=
  (wp_41).trans (mm_ic ((wp_1).trans (wp_90)) (mm_kb bq_225_5 ((wp_5_0).trans ((wp_3_4).trans ((wp_3_2).trans ((wp_3_3).trans ((wp_v4 mm_n_184 (mm_leq mm_m_184 (mm_lb rfl)) (mm_lb rfl) (mm_o40 hy)).trans rfl)))))))
theorem r_225_5_5 (vx1 : mm_V) (x2 : Int) (vx3 : mm_V) (x4 : Int) (vx5 : mm_V) (vx6 : mm_V) (y0 : Int) {hi : mm_Id → Int → Int} {dh : Int → Int} {nx ns : Int} {Q : mm_V → mm_H → Prop} (hy : 10581 ≤ nx) :
    mm_Wp 225 (bk_225_5.drop 5) [zR (40, 0, 0), vx1, zI x2, vx3, zI x4, vx5, vx6] [zI y0] (mm_z hi dh nx ns) Q =
    (if y0 < 0 then Q (zI (-1)) (mm_z hi dh nx ns) else mm_Cl 185 [zR (40, 0, 0), zI x4, zI x2, zI y0] (mm_z hi dh nx ns) (fun r h3 => mm_Wp 225 (bk_225_6.drop 5) [zR (40, 0, 0), vx1, zI x2, vx3, zI x4, zI y0, vx6] (mm_push r []) h3 Q)) :=
  (wp_6 (l2 := [zR (40, 0, 0), vx1, zI x2, vx3, zI x4, zI y0, vx6]) rfl).trans ((wp_3_5).trans ((wp_43).trans (mm_ic ((wp_1).trans (wp_90)) (mm_kb bq_225_6 ((wp_5_0).trans ((wp_3_4).trans ((wp_3_2).trans ((wp_3_5).trans ((wp_v4 mm_n_185 (mm_leq mm_m_185 (mm_lb rfl)) (mm_lb rfl) (mm_o40 hy)).trans rfl)))))))))
theorem r_225_6_5 (vx1 : mm_V) (x2 : Int) (vx3 : mm_V) (x4 : Int) (x5 : Int) (vx6 : mm_V) (y0 : Int) {hi : mm_Id → Int → Int} {dh : Int → Int} {nx ns : Int} {Q : mm_V → mm_H → Prop} (hy : 10581 ≤ nx) :
    mm_Wp 225 (bk_225_6.drop 5) [zR (40, 0, 0), vx1, zI x2, vx3, zI x4, zI x5, vx6] [zI y0] (mm_z hi dh nx ns) Q =
    mm_Cl 211 [zR (40, 0, 0), zI x4, zI y0] (mm_z hi dh nx ns) (fun r h3 => mm_Wp 225 (bk_225_6.drop 10) [zR (40, 0, 0), vx1, zI x2, vx3, zI x4, zI x5, zI y0] (mm_push r []) h3 Q) :=
  (wp_6 (l2 := [zR (40, 0, 0), vx1, zI x2, vx3, zI x4, zI x5, zI y0]) rfl).trans ((wp_5_0).trans ((wp_3_4).trans ((wp_3_6).trans ((wp_v3 mm_n_211 (mm_leq mm_m_211 (mm_lb rfl)) (mm_lb rfl) (mm_o40 hy)).trans rfl))))
theorem r_225_6_10 (vx1 : mm_V) (x2 : Int) (vx3 : mm_V) (x4 : Int) (x5 : Int) (x6 : Int) (y0 : Int) {hi : mm_Id → Int → Int} {dh : Int → Int} {nx ns : Int} {Q : mm_V → mm_H → Prop} (hy : 10581 ≤ nx) :
    mm_Wp 225 (bk_225_6.drop 10) [zR (40, 0, 0), vx1, zI x2, vx3, zI x4, zI x5, zI x6] [zI y0] (mm_z hi dh nx ns) Q =
    (if y0 = 0 then mm_Wp 225 (mm_blk 225 7) [zR (40, 0, 0), vx1, zI x2, vx3, zI x4, zI x5, zI x6] [] (mm_z hi dh nx ns) Q else mm_Cl 175 [zI x4, zI x6] (mm_z hi dh nx ns) (fun r h3 => mm_Wp 225 (bk_225_6.drop 16) [zR (40, 0, 0), vx1, zI x2, vx3, zI x4, zI x5, zI x6] (mm_push r [zR (44, 0, 0)]) h3 Q)) :=
  (wp_40).trans (mm_ic (rfl) ((wp_5_0).trans ((wp_62 (by decide) (mm_o40 hy) (mm_r40_5 hy)).trans ((wp_3_4).trans ((wp_3_6).trans ((wp_s2 mm_n_175 (mm_leq mm_m_175 (mm_lb rfl)) (mm_lb rfl)).trans rfl))))))
theorem r_225_7 (vx1 : mm_V) (x2 : Int) (vx3 : mm_V) (x4 : Int) (x5 : Int) (x6 : Int) {hi : mm_Id → Int → Int} {dh : Int → Int} {nx ns : Int} {Q : mm_V → mm_H → Prop} (hy : 10581 ≤ nx) :
    mm_Wp 225 (mm_blk 225 7) [zR (40, 0, 0), vx1, zI x2, vx3, zI x4, zI x5, zI x6] [] (mm_z hi dh nx ns) Q =
    mm_Cl 224 [zR (40, 0, 0), zI x4, zI x2, zI x5] (mm_z hi dh nx ns) (fun r h3 => mm_Wp 225 (bk_225_7.drop 5) [zR (40, 0, 0), vx1, zI x2, vx3, zI x4, zI x5, zI x6] (mm_push r []) h3 Q) :=
  mm_kb bq_225_7 ((wp_5_0).trans ((wp_3_4).trans ((wp_3_2).trans ((wp_3_5).trans ((wp_v4 mm_n_224 (mm_leq mm_m_224 (mm_lb rfl)) (mm_lb rfl) (mm_o40 hy)).trans rfl)))))
theorem r_225_6_16 (vx1 : mm_V) (x2 : Int) (vx3 : mm_V) (x4 : Int) (x5 : Int) (x6 : Int) (y0 : Int) {hi : mm_Id → Int → Int} {dh : Int → Int} {nx ns : Int} {Q : mm_V → mm_H → Prop} (hy : 10581 ≤ nx) :
    mm_Wp 225 (bk_225_6.drop 16) [zR (40, 0, 0), vx1, zI x2, vx3, zI x4, zI x5, zI x6] [zI y0, zR (44, 0, 0)] (mm_z hi dh nx ns) Q =
    ((0 ≤ y0 ∧ y0 < 1044) ∧ (if 0 < (hi (44, 0, 0) y0) then Q (zI (-3)) (mm_z hi dh nx ns) else mm_Wp 225 (mm_blk 225 7) [zR (40, 0, 0), vx1, zI x2, vx3, zI x4, zI x5, zI x6] [] (mm_z hi dh nx ns) Q)) :=
  (wp_70 (mm_q44 hy)).trans (mm_ae ((wp_45).trans (mm_ic ((wp_1).trans (wp_90)) (rfl))))
theorem r_225_7_5 (vx1 : mm_V) (vx2 : mm_V) (vx3 : mm_V) (x4 : Int) (vx5 : mm_V) (x6 : Int) {hi : mm_Id → Int → Int} {dh : Int → Int} {nx ns : Int} {Q : mm_V → mm_H → Prop} (hy : 10581 ≤ nx) :
    mm_Wp 225 (bk_225_7.drop 5) [zR (40, 0, 0), vx1, vx2, vx3, zI x4, vx5, zI x6] [] (mm_z hi dh nx ns) Q =
    mm_Cl 191 [zR (40, 0, 0), zI x4] (mm_z hi dh nx ns) (fun r h3 => mm_Wp 225 (bk_225_7.drop 8) [zR (40, 0, 0), vx1, vx2, vx3, zI x4, vx5, zI x6] (mm_push r []) h3 Q) :=
  (wp_5_0).trans ((wp_3_4).trans ((wp_v2 mm_n_191 (mm_leq mm_m_191 (mm_lb rfl)) (mm_lb rfl) (mm_o40 hy)).trans rfl))
theorem r_225_7_8 (vx1 : mm_V) (vx2 : mm_V) (vx3 : mm_V) (vx4 : mm_V) (vx5 : mm_V) (x6 : Int) {hi : mm_Id → Int → Int} {dh : Int → Int} {nx ns : Int} {Q : mm_V → mm_H → Prop} (hy : 10581 ≤ nx) :
    mm_Wp 225 (bk_225_7.drop 8) [zR (40, 0, 0), vx1, vx2, vx3, vx4, vx5, zI x6] [] (mm_z hi dh nx ns) Q =
    mm_Cl 209 [zR (40, 0, 0)] (mm_z hi dh nx ns) (fun r h3 => mm_Wp 225 (bk_225_7.drop 10) [zR (40, 0, 0), vx1, vx2, vx3, vx4, vx5, zI x6] (mm_push r []) h3 Q) :=
  (wp_5_0).trans ((wp_v1 mm_n_209 (mm_leq mm_m_209 (mm_lb rfl)) (mm_lb rfl) (mm_o40 hy)).trans rfl)
theorem r_225_7_10 (vx0 : mm_V) (vx1 : mm_V) (vx2 : mm_V) (vx3 : mm_V) (vx4 : mm_V) (vx5 : mm_V) (x6 : Int) {hi : mm_Id → Int → Int} {dh : Int → Int} {nx ns : Int} {Q : mm_V → mm_H → Prop} (hy : 10581 ≤ nx) :
    mm_Wp 225 (bk_225_7.drop 10) [vx0, vx1, vx2, vx3, vx4, vx5, zI x6] [] (mm_z hi dh nx ns) Q =
    Q (zI x6) (mm_z hi dh nx ns) :=
  (wp_3_6).trans (wp_90)
/-- PoolHouseModel.isBelow(III)Z -/
theorem bq_226_0 : mm_blk 226 0 = bk_226_0 := by decide +kernel
theorem bq_226_1 : mm_blk 226 1 = bk_226_1 := by decide +kernel
theorem bq_226_2 : mm_blk 226 2 = bk_226_2 := by decide +kernel
theorem bq_226_3 : mm_blk 226 3 = bk_226_3 := by decide +kernel
theorem bq_226_4 : mm_blk 226 4 = bk_226_4 := by decide +kernel
theorem r_226_e (x1 : Int) (x2 : Int) (x3 : Int) {hi : mm_Id → Int → Int} {dh : Int → Int} {nx ns : Int} {Q : mm_V → mm_H → Prop} (hy : 10581 ≤ nx) :
    mm_Cl 226 [zR (40, 0, 0), zI x1, zI x2, zI x3] (mm_z hi dh nx ns) Q =
    mm_Wp 226 (mm_blk 226 1) [zR (40, 0, 0), zI x1, zI x2, zI x3, zI x2] [] (mm_z hi dh nx ns) Q :=
  mm_ce (l2 := [zR (40, 0, 0), zI x1, zI x2, zI x3, zU]) rfl (mm_kb bq_226_0 ((wp_3_2).trans ((wp_6 (l2 := [zR (40, 0, 0), zI x1, zI x2, zI x3, zI x2]) rfl).trans ((wp_0).trans (rfl)))))
theorem r_226_1 (x1 : Int) (vx2 : mm_V) (x3 : Int) (x4 : Int) {hi : mm_Id → Int → Int} {dh : Int → Int} {nx ns : Int} {Q : mm_V → mm_H → Prop} (hy : 10581 ≤ nx) :
    mm_Wp 226 (mm_blk 226 1) [zR (40, 0, 0), zI x1, vx2, zI x3, zI x4] [] (mm_z hi dh nx ns) Q =
    (if x4 = 0 then mm_Wp 226 (mm_blk 226 2) [zR (40, 0, 0), zI x1, vx2, zI x3, zI x4] [] (mm_z hi dh nx ns) Q else (if x4 = x3 then mm_Wp 226 (mm_blk 226 2) [zR (40, 0, 0), zI x1, vx2, zI x3, zI x4] [] (mm_z hi dh nx ns) Q else mm_Cl 189 [zR (40, 0, 0), zI x1, zI x4] (mm_z hi dh nx ns) (fun r h3 => mm_Wp 226 (bk_226_1.drop 9) [zR (40, 0, 0), zI x1, vx2, zI x3, zI x4] (mm_push r []) h3 Q))) :=
  mm_kb bq_226_1 ((wp_3_4).trans ((wp_40).trans (mm_ic (rfl) ((wp_3_4).trans ((wp_3_3).trans ((wp_46).trans (mm_ic (rfl) ((wp_5_0).trans ((wp_3_1).trans ((wp_3_4).trans ((wp_v3 mm_n_189 (mm_leq mm_m_189 (mm_lb rfl)) (mm_lb rfl) (mm_o40 hy)).trans rfl)))))))))))
theorem r_226_2 (vx0 : mm_V) (vx1 : mm_V) (vx2 : mm_V) (x3 : Int) (x4 : Int) {hi : mm_Id → Int → Int} {dh : Int → Int} {nx ns : Int} {Q : mm_V → mm_H → Prop} (hy : 10581 ≤ nx) :
    mm_Wp 226 (mm_blk 226 2) [vx0, vx1, vx2, zI x3, zI x4] [] (mm_z hi dh nx ns) Q =
    (if x4 = x3 then mm_Wp 226 (mm_blk 226 4) [vx0, vx1, vx2, zI x3, zI x4] [zI 1] (mm_z hi dh nx ns) Q else mm_Wp 226 (mm_blk 226 4) [vx0, vx1, vx2, zI x3, zI x4] [zI 0] (mm_z hi dh nx ns) Q) :=
  mm_kb bq_226_2 ((wp_3_4).trans ((wp_3_3).trans ((wp_47).trans (mm_ic ((wp_1).trans ((wp_56).trans (rfl))) (mm_kb bq_226_3 ((wp_1).trans ((wp_0).trans (rfl))))))))
theorem r_226_1_9 (x1 : Int) (vx2 : mm_V) (x3 : Int) (vx4 : mm_V) (y0 : Int) {hi : mm_Id → Int → Int} {dh : Int → Int} {nx ns : Int} {Q : mm_V → mm_H → Prop} (hy : 10581 ≤ nx) :
    mm_Wp 226 (bk_226_1.drop 9) [zR (40, 0, 0), zI x1, vx2, zI x3, vx4] [zI y0] (mm_z hi dh nx ns) Q =
    mm_Wp 226 (mm_blk 226 1) [zR (40, 0, 0), zI x1, vx2, zI x3, zI y0] [] (mm_z hi dh nx ns) Q :=
  (wp_6 (l2 := [zR (40, 0, 0), zI x1, vx2, zI x3, zI y0]) rfl).trans ((wp_56).trans (rfl))
theorem r_226_4 (vx0 : mm_V) (vx1 : mm_V) (vx2 : mm_V) (vx3 : mm_V) (vx4 : mm_V) (y0 : Int) {hi : mm_Id → Int → Int} {dh : Int → Int} {nx ns : Int} {Q : mm_V → mm_H → Prop} (hy : 10581 ≤ nx) :
    mm_Wp 226 (mm_blk 226 4) [vx0, vx1, vx2, vx3, vx4] [zI y0] (mm_z hi dh nx ns) Q =
    ((y0 = 0 ∨ y0 = 1) ∧ Q (zI y0) (mm_z hi dh nx ns)) :=
  mm_kb bq_226_4 (wp_94z)
/-- PoolHouseModel.rename(IIIII)I -/
theorem bq_227_0 : mm_blk 227 0 = bk_227_0 := by decide +kernel
theorem bq_227_1 : mm_blk 227 1 = bk_227_1 := by decide +kernel
theorem bq_227_2 : mm_blk 227 2 = bk_227_2 := by decide +kernel
theorem bq_227_3 : mm_blk 227 3 = bk_227_3 := by decide +kernel
theorem bq_227_4 : mm_blk 227 4 = bk_227_4 := by decide +kernel
theorem bq_227_5 : mm_blk 227 5 = bk_227_5 := by decide +kernel
theorem bq_227_6 : mm_blk 227 6 = bk_227_6 := by decide +kernel
theorem bq_227_7 : mm_blk 227 7 = bk_227_7 := by decide +kernel
theorem bq_227_8 : mm_blk 227 8 = bk_227_8 := by decide +kernel
theorem bq_227_9 : mm_blk 227 9 = bk_227_9 := by decide +kernel
theorem bq_227_10 : mm_blk 227 10 = bk_227_10 := by decide +kernel
theorem bq_227_11 : mm_blk 227 11 = bk_227_11 := by decide +kernel
theorem bq_227_12 : mm_blk 227 12 = bk_227_12 := by decide +kernel
theorem bq_227_13 : mm_blk 227 13 = bk_227_13 := by decide +kernel
theorem bq_227_14 : mm_blk 227 14 = bk_227_14 := by decide +kernel
theorem bq_227_15 : mm_blk 227 15 = bk_227_15 := by decide +kernel
theorem bq_227_16 : mm_blk 227 16 = bk_227_16 := by decide +kernel
theorem bq_227_17 : mm_blk 227 17 = bk_227_17 := by decide +kernel
theorem bq_227_18 : mm_blk 227 18 = bk_227_18 := by decide +kernel
theorem bq_227_19 : mm_blk 227 19 = bk_227_19 := by decide +kernel
theorem bq_227_20 : mm_blk 227 20 = bk_227_20 := by decide +kernel
theorem r_227_e (x1 : Int) (x2 : Int) (x3 : Int) (x4 : Int) (x5 : Int) {hi : mm_Id → Int → Int} {dh : Int → Int} {nx ns : Int} {Q : mm_V → mm_H → Prop} (hy : 10581 ≤ nx) :
    mm_Cl 227 [zR (40, 0, 0), zI x1, zI x2, zI x3, zI x4, zI x5] (mm_z hi dh nx ns) Q =
    mm_Cl 181 [zR (40, 0, 0), zI x1] (mm_z (mm_up hi (40, 0, 0) 0 0) dh nx ns) (fun r h3 => mm_Wp 227 (bk_227_0.drop 6) [zR (40, 0, 0), zI x1, zI x2, zI x3, zI x4, zI x5, zU, zU, zU, zU, zU, zU, zU] (mm_push r []) h3 Q) :=
  mm_ce (l2 := [zR (40, 0, 0), zI x1, zI x2, zI x3, zI x4, zI x5, zU, zU, zU, zU, zU, zU, zU]) rfl (mm_kb bq_227_0 ((wp_5_0).trans ((wp_1).trans ((wp_63 (mm_o40 hy)).trans ((wp_5_0).trans ((wp_3_1).trans ((wp_v2 mm_n_181 (mm_leq mm_m_181 (mm_lb rfl)) (mm_lb rfl) (mm_o40 hy)).trans rfl)))))))
theorem r_227_0_6 (vx1 : mm_V) (x2 : Int) (x3 : Int) (x4 : Int) (x5 : Int) (vx6 : mm_V) (vx7 : mm_V) (vx8 : mm_V) (vx9 : mm_V) (vx10 : mm_V) (vx11 : mm_V) (vx12 : mm_V) (y0 : Int) {hi : mm_Id → Int → Int} {dh : Int → Int} {nx ns : Int} {Q : mm_V → mm_H → Prop} (hy : 10581 ≤ nx) :
    mm_Wp 227 (bk_227_0.drop 6) [zR (40, 0, 0), vx1, zI x2, zI x3, zI x4, zI x5, vx6, vx7, vx8, vx9, vx10, vx11, vx12] [zI y0] (mm_z hi dh nx ns) Q =
    mm_Cl 210 [zR (40, 0, 0), zI y0, zI x2] (mm_z hi dh nx ns) (fun r h3 => mm_Wp 227 (bk_227_0.drop 11) [zR (40, 0, 0), vx1, zI x2, zI x3, zI x4, zI x5, zI y0, vx7, vx8, vx9, vx10, vx11, vx12] (mm_push r []) h3 Q) :=
  (wp_6 (l2 := [zR (40, 0, 0), vx1, zI x2, zI x3, zI x4, zI x5, zI y0, vx7, vx8, vx9, vx10, vx11, vx12]) rfl).trans ((wp_5_0).trans ((wp_3_6).trans ((wp_3_2).trans ((wp_v3 mm_n_210 (mm_leq mm_m_210 (mm_lb rfl)) (mm_lb rfl) (mm_o40 hy)).trans rfl))))
theorem r_227_0_11 (vx1 : mm_V) (x2 : Int) (x3 : Int) (x4 : Int) (x5 : Int) (x6 : Int) (vx7 : mm_V) (vx8 : mm_V) (vx9 : mm_V) (vx10 : mm_V) (vx11 : mm_V) (vx12 : mm_V) (y0 : Int) {hi : mm_Id → Int → Int} {dh : Int → Int} {nx ns : Int} {Q : mm_V → mm_H → Prop} (hy : 10581 ≤ nx) :
    mm_Wp 227 (bk_227_0.drop 11) [zR (40, 0, 0), vx1, zI x2, zI x3, zI x4, zI x5, zI x6, vx7, vx8, vx9, vx10, vx11, vx12] [zI y0] (mm_z hi dh nx ns) Q =
    (if y0 = 0 then mm_Wp 227 (mm_blk 227 1) [zR (40, 0, 0), vx1, zI x2, zI x3, zI x4, zI x5, zI x6, vx7, vx8, vx9, vx10, vx11, vx12] [] (mm_z hi dh nx ns) Q else mm_Cl 176 [zR (40, 0, 0), zI x6, zI x4] (mm_z hi dh nx ns) (fun r h3 => mm_Wp 227 (bk_227_0.drop 16) [zR (40, 0, 0), vx1, zI x2, zI x3, zI x4, zI x5, zI x6, vx7, vx8, vx9, vx10, vx11, vx12] (mm_push r []) h3 Q)) :=
  (wp_40).trans (mm_ic (rfl) ((wp_5_0).trans ((wp_3_6).trans ((wp_3_4).trans ((wp_v3 mm_n_176 (mm_leq mm_m_176 (mm_lb rfl)) (mm_lb rfl) (mm_o40 hy)).trans rfl)))))
theorem r_227_1 (vx0 : mm_V) (vx1 : mm_V) (vx2 : mm_V) (vx3 : mm_V) (vx4 : mm_V) (vx5 : mm_V) (vx6 : mm_V) (vx7 : mm_V) (vx8 : mm_V) (vx9 : mm_V) (vx10 : mm_V) (vx11 : mm_V) (vx12 : mm_V) {hi : mm_Id → Int → Int} {dh : Int → Int} {nx ns : Int} {Q : mm_V → mm_H → Prop} (hy : 10581 ≤ nx) :
    mm_Wp 227 (mm_blk 227 1) [vx0, vx1, vx2, vx3, vx4, vx5, vx6, vx7, vx8, vx9, vx10, vx11, vx12] [] (mm_z hi dh nx ns) Q =
    Q (zI (-1)) (mm_z hi dh nx ns) :=
  mm_kb bq_227_1 ((wp_1).trans (wp_90))
theorem r_227_0_16 (vx1 : mm_V) (x2 : Int) (x3 : Int) (x4 : Int) (x5 : Int) (x6 : Int) (vx7 : mm_V) (vx8 : mm_V) (vx9 : mm_V) (vx10 : mm_V) (vx11 : mm_V) (vx12 : mm_V) (y0 : Int) {hi : mm_Id → Int → Int} {dh : Int → Int} {nx ns : Int} {Q : mm_V → mm_H → Prop} (hy : 10581 ≤ nx) :
    mm_Wp 227 (bk_227_0.drop 16) [zR (40, 0, 0), vx1, zI x2, zI x3, zI x4, zI x5, zI x6, vx7, vx8, vx9, vx10, vx11, vx12] [zI y0] (mm_z hi dh nx ns) Q =
    (if y0 = 0 then mm_Wp 227 (mm_blk 227 1) [zR (40, 0, 0), vx1, zI x2, zI x3, zI x4, zI x5, zI x6, vx7, vx8, vx9, vx10, vx11, vx12] [] (mm_z hi dh nx ns) Q else mm_Cl 174 [zL x3, zL 1, zL 1000000] (mm_z hi dh nx ns) (fun r h3 => mm_Wp 227 (bk_227_2.drop 5) [zR (40, 0, 0), vx1, zI x2, zI x3, zI x4, zI x5, zI x6, vx7, vx8, vx9, vx10, vx11, vx12] (mm_push r []) h3 Q)) :=
  (wp_41).trans (mm_ic ((wp_0).trans (rfl)) (mm_kb bq_227_2 ((wp_3_3).trans ((wp_31).trans ((wp_2).trans ((wp_2).trans ((wp_s3 mm_n_174 (mm_leq mm_m_174 (mm_lb rfl)) (mm_lb rfl)).trans rfl)))))))
theorem r_227_2_5 (vx1 : mm_V) (x2 : Int) (x3 : Int) (x4 : Int) (x5 : Int) (x6 : Int) (vx7 : mm_V) (vx8 : mm_V) (vx9 : mm_V) (vx10 : mm_V) (vx11 : mm_V) (vx12 : mm_V) (y0 : Int) {hi : mm_Id → Int → Int} {dh : Int → Int} {nx ns : Int} {Q : mm_V → mm_H → Prop} (hy : 10581 ≤ nx) :
    mm_Wp 227 (bk_227_2.drop 5) [zR (40, 0, 0), vx1, zI x2, zI x3, zI x4, zI x5, zI x6, vx7, vx8, vx9, vx10, vx11, vx12] [zI y0] (mm_z hi dh nx ns) Q =
    (if y0 = 0 then mm_Wp 227 (mm_blk 227 3) [zR (40, 0, 0), vx1, zI x2, zI x3, zI x4, zI x5, zI x6, vx7, vx8, vx9, vx10, vx11, vx12] [] (mm_z hi dh nx ns) Q else mm_Cl 174 [zL x5, zL 1, zL 1000000] (mm_z hi dh nx ns) (fun r h3 => mm_Wp 227 (bk_227_2.drop 11) [zR (40, 0, 0), vx1, zI x2, zI x3, zI x4, zI x5, zI x6, vx7, vx8, vx9, vx10, vx11, vx12] (mm_push r []) h3 Q)) :=
  (wp_40).trans (mm_ic (rfl) ((wp_3_5).trans ((wp_31).trans ((wp_2).trans ((wp_2).trans ((wp_s3 mm_n_174 (mm_leq mm_m_174 (mm_lb rfl)) (mm_lb rfl)).trans rfl))))))
theorem r_227_3 (vx0 : mm_V) (vx1 : mm_V) (vx2 : mm_V) (vx3 : mm_V) (vx4 : mm_V) (vx5 : mm_V) (vx6 : mm_V) (vx7 : mm_V) (vx8 : mm_V) (vx9 : mm_V) (vx10 : mm_V) (vx11 : mm_V) (vx12 : mm_V) {hi : mm_Id → Int → Int} {dh : Int → Int} {nx ns : Int} {Q : mm_V → mm_H → Prop} (hy : 10581 ≤ nx) :
    mm_Wp 227 (mm_blk 227 3) [vx0, vx1, vx2, vx3, vx4, vx5, vx6, vx7, vx8, vx9, vx10, vx11, vx12] [] (mm_z hi dh nx ns) Q =
    Q (zI (-2)) (mm_z hi dh nx ns) :=
  mm_kb bq_227_3 ((wp_1).trans (wp_90))
theorem r_227_2_11 (vx1 : mm_V) (x2 : Int) (x3 : Int) (x4 : Int) (x5 : Int) (x6 : Int) (vx7 : mm_V) (vx8 : mm_V) (vx9 : mm_V) (vx10 : mm_V) (vx11 : mm_V) (vx12 : mm_V) (y0 : Int) {hi : mm_Id → Int → Int} {dh : Int → Int} {nx ns : Int} {Q : mm_V → mm_H → Prop} (hy : 10581 ≤ nx) :
    mm_Wp 227 (bk_227_2.drop 11) [zR (40, 0, 0), vx1, zI x2, zI x3, zI x4, zI x5, zI x6, vx7, vx8, vx9, vx10, vx11, vx12] [zI y0] (mm_z hi dh nx ns) Q =
    (if y0 = 0 then mm_Wp 227 (mm_blk 227 3) [zR (40, 0, 0), vx1, zI x2, zI x3, zI x4, zI x5, zI x6, vx7, vx8, vx9, vx10, vx11, vx12] [] (mm_z hi dh nx ns) Q else (if x6 < 5 then mm_Cl 211 [zR (40, 0, 0), zI x6, zI x2] (mm_z hi dh nx ns) (fun r h3 => mm_Wp 227 (bk_227_4.drop 7) [zR (40, 0, 0), vx1, zI x2, zI x3, zI x4, zI x5, zI x6, vx7, vx8, vx9, vx10, vx11, vx12] (mm_push r []) h3 Q) else mm_Wp 227 (mm_blk 227 5) [zR (40, 0, 0), vx1, zI x2, zI x3, zI x4, zI x5, zI x6, vx7, vx8, vx9, vx10, vx11, vx12] [] (mm_z hi dh nx ns) Q)) :=
  (wp_41).trans (mm_ic ((wp_0).trans (rfl)) (mm_kb bq_227_4 ((wp_3_6).trans ((wp_1).trans ((wp_49).trans (mm_ic ((wp_5_0).trans ((wp_3_6).trans ((wp_3_2).trans ((wp_v3 mm_n_211 (mm_leq mm_m_211 (mm_lb rfl)) (mm_lb rfl) (mm_o40 hy)).trans rfl)))) (rfl)))))))
theorem r_227_5 (vx0 : mm_V) (vx1 : mm_V) (vx2 : mm_V) (vx3 : mm_V) (vx4 : mm_V) (vx5 : mm_V) (vx6 : mm_V) (vx7 : mm_V) (vx8 : mm_V) (vx9 : mm_V) (vx10 : mm_V) (vx11 : mm_V) (vx12 : mm_V) {hi : mm_Id → Int → Int} {dh : Int → Int} {nx ns : Int} {Q : mm_V → mm_H → Prop} (hy : 10581 ≤ nx) :
    mm_Wp 227 (mm_blk 227 5) [vx0, vx1, vx2, vx3, vx4, vx5, vx6, vx7, vx8, vx9, vx10, vx11, vx12] [] (mm_z hi dh nx ns) Q =
    Q (zI (-3)) (mm_z hi dh nx ns) :=
  mm_kb bq_227_5 ((wp_1).trans (wp_90))
theorem r_227_4_7 (vx1 : mm_V) (x2 : Int) (x3 : Int) (x4 : Int) (x5 : Int) (x6 : Int) (vx7 : mm_V) (vx8 : mm_V) (vx9 : mm_V) (vx10 : mm_V) (vx11 : mm_V) (vx12 : mm_V) (y0 : Int) {hi : mm_Id → Int → Int} {dh : Int → Int} {nx ns : Int} {Q : mm_V → mm_H → Prop} (hy : 10581 ≤ nx) :
    mm_Wp 227 (bk_227_4.drop 7) [zR (40, 0, 0), vx1, zI x2, zI x3, zI x4, zI x5, zI x6, vx7, vx8, vx9, vx10, vx11, vx12] [zI y0] (mm_z hi dh nx ns) Q =
    (if y0 = 0 then mm_Wp 227 (mm_blk 227 5) [zR (40, 0, 0), vx1, zI x2, zI x3, zI x4, zI x5, zI x6, vx7, vx8, vx9, vx10, vx11, vx12] [] (mm_z hi dh nx ns) Q else mm_Cl 211 [zR (40, 0, 0), zI x6, zI x4] (mm_z hi dh nx ns) (fun r h3 => mm_Wp 227 (bk_227_4.drop 12) [zR (40, 0, 0), vx1, zI x2, zI x3, zI x4, zI x5, zI x6, vx7, vx8, vx9, vx10, vx11, vx12] (mm_push r []) h3 Q)) :=
  (wp_40).trans (mm_ic (rfl) ((wp_5_0).trans ((wp_3_6).trans ((wp_3_4).trans ((wp_v3 mm_n_211 (mm_leq mm_m_211 (mm_lb rfl)) (mm_lb rfl) (mm_o40 hy)).trans rfl)))))
theorem r_227_4_12 (vx1 : mm_V) (x2 : Int) (x3 : Int) (x4 : Int) (x5 : Int) (x6 : Int) (vx7 : mm_V) (vx8 : mm_V) (vx9 : mm_V) (vx10 : mm_V) (vx11 : mm_V) (vx12 : mm_V) (y0 : Int) {hi : mm_Id → Int → Int} {dh : Int → Int} {nx ns : Int} {Q : mm_V → mm_H → Prop} (hy : 10581 ≤ nx) :
    mm_Wp 227 (bk_227_4.drop 12) [zR (40, 0, 0), vx1, zI x2, zI x3, zI x4, zI x5, zI x6, vx7, vx8, vx9, vx10, vx11, vx12] [zI y0] (mm_z hi dh nx ns) Q =
    (if y0 = 0 then mm_Wp 227 (mm_blk 227 5) [zR (40, 0, 0), vx1, zI x2, zI x3, zI x4, zI x5, zI x6, vx7, vx8, vx9, vx10, vx11, vx12] [] (mm_z hi dh nx ns) Q else mm_Cl 204 [zR (40, 0, 0), zI x6, zI x2] (mm_z hi dh nx ns) (fun r h3 => mm_Wp 227 (bk_227_6.drop 4) [zR (40, 0, 0), vx1, zI x2, zI x3, zI x4, zI x5, zI x6, vx7, vx8, vx9, vx10, vx11, vx12] (mm_push r []) h3 Q)) :=
  (wp_41).trans (mm_ic ((wp_0).trans (rfl)) (mm_kb bq_227_6 ((wp_5_0).trans ((wp_3_6).trans ((wp_3_2).trans ((wp_v3 mm_n_204 (mm_leq mm_m_204 (mm_lb rfl)) (mm_lb rfl) (mm_o40 hy)).trans rfl))))))
theorem r_227_6_4 (vx1 : mm_V) (x2 : Int) (x3 : Int) (x4 : Int) (x5 : Int) (x6 : Int) (vx7 : mm_V) (vx8 : mm_V) (vx9 : mm_V) (vx10 : mm_V) (vx11 : mm_V) (vx12 : mm_V) (y0 : Int) {hi : mm_Id → Int → Int} {dh : Int → Int} {nx ns : Int} {Q : mm_V → mm_H → Prop} (hy : 10581 ≤ nx) :
    mm_Wp 227 (bk_227_6.drop 4) [zR (40, 0, 0), vx1, zI x2, zI x3, zI x4, zI x5, zI x6, vx7, vx8, vx9, vx10, vx11, vx12] [zI y0] (mm_z hi dh nx ns) Q =
    (if y0 = 0 then mm_Wp 227 (mm_blk 227 7) [zR (40, 0, 0), vx1, zI x2, zI x3, zI x4, zI x5, zI x6, vx7, vx8, vx9, vx10, vx11, vx12] [] (mm_z hi dh nx ns) Q else mm_Cl 204 [zR (40, 0, 0), zI x6, zI x4] (mm_z hi dh nx ns) (fun r h3 => mm_Wp 227 (bk_227_6.drop 9) [zR (40, 0, 0), vx1, zI x2, zI x3, zI x4, zI x5, zI x6, vx7, vx8, vx9, vx10, vx11, vx12] (mm_push r []) h3 Q)) :=
  (wp_40).trans (mm_ic (rfl) ((wp_5_0).trans ((wp_3_6).trans ((wp_3_4).trans ((wp_v3 mm_n_204 (mm_leq mm_m_204 (mm_lb rfl)) (mm_lb rfl) (mm_o40 hy)).trans rfl)))))
theorem r_227_7 (vx0 : mm_V) (vx1 : mm_V) (vx2 : mm_V) (vx3 : mm_V) (vx4 : mm_V) (vx5 : mm_V) (vx6 : mm_V) (vx7 : mm_V) (vx8 : mm_V) (vx9 : mm_V) (vx10 : mm_V) (vx11 : mm_V) (vx12 : mm_V) {hi : mm_Id → Int → Int} {dh : Int → Int} {nx ns : Int} {Q : mm_V → mm_H → Prop} (hy : 10581 ≤ nx) :
    mm_Wp 227 (mm_blk 227 7) [vx0, vx1, vx2, vx3, vx4, vx5, vx6, vx7, vx8, vx9, vx10, vx11, vx12] [] (mm_z hi dh nx ns) Q =
    Q (zI (-5)) (mm_z hi dh nx ns) :=
  mm_kb bq_227_7 ((wp_1).trans (wp_90))
theorem r_227_6_9 (vx1 : mm_V) (x2 : Int) (x3 : Int) (x4 : Int) (x5 : Int) (x6 : Int) (vx7 : mm_V) (vx8 : mm_V) (vx9 : mm_V) (vx10 : mm_V) (vx11 : mm_V) (vx12 : mm_V) (y0 : Int) {hi : mm_Id → Int → Int} {dh : Int → Int} {nx ns : Int} {Q : mm_V → mm_H → Prop} (hy : 10581 ≤ nx) :
    mm_Wp 227 (bk_227_6.drop 9) [zR (40, 0, 0), vx1, zI x2, zI x3, zI x4, zI x5, zI x6, vx7, vx8, vx9, vx10, vx11, vx12] [zI y0] (mm_z hi dh nx ns) Q =
    (if y0 = 0 then mm_Wp 227 (mm_blk 227 7) [zR (40, 0, 0), vx1, zI x2, zI x3, zI x4, zI x5, zI x6, vx7, vx8, vx9, vx10, vx11, vx12] [] (mm_z hi dh nx ns) Q else mm_Cl 184 [zR (40, 0, 0), zI x6, zI x2, zI x3] (mm_z hi dh nx ns) (fun r h3 => mm_Wp 227 (bk_227_8.drop 5) [zR (40, 0, 0), vx1, zI x2, zI x3, zI x4, zI x5, zI x6, vx7, vx8, vx9, vx10, vx11, vx12] (mm_push r []) h3 Q)) :=
  (wp_41).trans (mm_ic ((wp_0).trans (rfl)) (mm_kb bq_227_8 ((wp_5_0).trans ((wp_3_6).trans ((wp_3_2).trans ((wp_3_3).trans ((wp_v4 mm_n_184 (mm_leq mm_m_184 (mm_lb rfl)) (mm_lb rfl) (mm_o40 hy)).trans rfl)))))))
theorem r_227_8_5 (vx1 : mm_V) (x2 : Int) (x3 : Int) (x4 : Int) (x5 : Int) (x6 : Int) (vx7 : mm_V) (vx8 : mm_V) (vx9 : mm_V) (vx10 : mm_V) (vx11 : mm_V) (vx12 : mm_V) (y0 : Int) {hi : mm_Id → Int → Int} {dh : Int → Int} {nx ns : Int} {Q : mm_V → mm_H → Prop} (hy : 10581 ≤ nx) :
    mm_Wp 227 (bk_227_8.drop 5) [zR (40, 0, 0), vx1, zI x2, zI x3, zI x4, zI x5, zI x6, vx7, vx8, vx9, vx10, vx11, vx12] [zI y0] (mm_z hi dh nx ns) Q =
    (if y0 < 0 then Q (zI (-1)) (mm_z hi dh nx ns) else mm_Cl 185 [zR (40, 0, 0), zI x6, zI x2, zI y0] (mm_z hi dh nx ns) (fun r h3 => mm_Wp 227 (bk_227_9.drop 5) [zR (40, 0, 0), vx1, zI x2, zI x3, zI x4, zI x5, zI x6, zI y0, vx8, vx9, vx10, vx11, vx12] (mm_push r []) h3 Q)) :=
  (wp_6 (l2 := [zR (40, 0, 0), vx1, zI x2, zI x3, zI x4, zI x5, zI x6, zI y0, vx8, vx9, vx10, vx11, vx12]) rfl).trans ((wp_3_7).trans ((wp_43).trans (mm_ic ((wp_1).trans (wp_90)) (mm_kb bq_227_9 ((wp_5_0).trans ((wp_3_6).trans ((wp_3_2).trans ((wp_3_7).trans ((wp_v4 mm_n_185 (mm_leq mm_m_185 (mm_lb rfl)) (mm_lb rfl) (mm_o40 hy)).trans rfl)))))))))
theorem r_227_9_5 (vx1 : mm_V) (x2 : Int) (x3 : Int) (x4 : Int) (x5 : Int) (x6 : Int) (vx7 : mm_V) (vx8 : mm_V) (vx9 : mm_V) (vx10 : mm_V) (vx11 : mm_V) (vx12 : mm_V) (y0 : Int) {hi : mm_Id → Int → Int} {dh : Int → Int} {nx ns : Int} {Q : mm_V → mm_H → Prop} (hvx7 : mm_wt vx7 = 1) (hy : 10581 ≤ nx) :
    mm_Wp 227 (bk_227_9.drop 5) [zR (40, 0, 0), vx1, zI x2, zI x3, zI x4, zI x5, zI x6, vx7, vx8, vx9, vx10, vx11, vx12] [zI y0] (mm_z hi dh nx ns) Q =
    mm_Cl 211 [zR (40, 0, 0), zI x6, zI y0] (mm_z hi dh nx ns) (fun r h3 => mm_Wp 227 (bk_227_9.drop 10) [zR (40, 0, 0), vx1, zI x2, zI x3, zI x4, zI x5, zI x6, vx7, zI y0, vx9, vx10, vx11, vx12] (mm_push r []) h3 Q) :=
  (wp_6 (l2 := [zR (40, 0, 0), vx1, zI x2, zI x3, zI x4, zI x5, zI x6, vx7, zI y0, vx9, vx10, vx11, vx12]) ((if_pos (mm_lb rfl)).trans (congrArg some (mm_stw rfl hvx7)))).trans ((wp_5_0).trans ((wp_3_6).trans ((wp_3_8).trans ((wp_v3 mm_n_211 (mm_leq mm_m_211 (mm_lb rfl)) (mm_lb rfl) (mm_o40 hy)).trans rfl))))
theorem r_227_9_10 (vx1 : mm_V) (x2 : Int) (x3 : Int) (x4 : Int) (x5 : Int) (x6 : Int) (vx7 : mm_V) (x8 : Int) (vx9 : mm_V) (vx10 : mm_V) (vx11 : mm_V) (vx12 : mm_V) (y0 : Int) {hi : mm_Id → Int → Int} {dh : Int → Int} {nx ns : Int} {Q : mm_V → mm_H → Prop} (hy : 10581 ≤ nx) :
    mm_Wp 227 (bk_227_9.drop 10) [zR (40, 0, 0), vx1, zI x2, zI x3, zI x4, zI x5, zI x6, vx7, zI x8, vx9, vx10, vx11, vx12] [zI y0] (mm_z hi dh nx ns) Q =
    mm_Cl 184 [zR (40, 0, 0), zI x6, zI x4, zI x5] (mm_z hi dh nx ns) (fun r h3 => mm_Wp 227 (bk_227_9.drop 16) [zR (40, 0, 0), vx1, zI x2, zI x3, zI x4, zI x5, zI x6, vx7, zI x8, zI y0, vx10, vx11, vx12] (mm_push r []) h3 Q) :=
  (wp_6 (l2 := [zR (40, 0, 0), vx1, zI x2, zI x3, zI x4, zI x5, zI x6, vx7, zI x8, zI y0, vx10, vx11, vx12]) rfl).trans ((wp_5_0).trans ((wp_3_6).trans ((wp_3_4).trans ((wp_3_5).trans ((wp_v4 mm_n_184 (mm_leq mm_m_184 (mm_lb rfl)) (mm_lb rfl) (mm_o40 hy)).trans rfl)))))
theorem r_227_9_16 (vx1 : mm_V) (x2 : Int) (x3 : Int) (x4 : Int) (x5 : Int) (x6 : Int) (vx7 : mm_V) (x8 : Int) (x9 : Int) (vx10 : mm_V) (vx11 : mm_V) (vx12 : mm_V) (y0 : Int) {hi : mm_Id → Int → Int} {dh : Int → Int} {nx ns : Int} {Q : mm_V → mm_H → Prop} (hy : 10581 ≤ nx) :
    mm_Wp 227 (bk_227_9.drop 16) [zR (40, 0, 0), vx1, zI x2, zI x3, zI x4, zI x5, zI x6, vx7, zI x8, zI x9, vx10, vx11, vx12] [zI y0] (mm_z hi dh nx ns) Q =
    (if y0 < 0 then mm_Wp 227 (mm_blk 227 11) [zR (40, 0, 0), vx1, zI x2, zI x3, zI x4, zI x5, zI x6, vx7, zI x8, zI x9, zI y0, vx11, vx12] [zI 0] (mm_z hi dh nx ns) Q else mm_Cl 185 [zR (40, 0, 0), zI x6, zI x4, zI y0] (mm_z hi dh nx ns) (fun r h3 => mm_Wp 227 (bk_227_10.drop 5) [zR (40, 0, 0), vx1, zI x2, zI x3, zI x4, zI x5, zI x6, vx7, zI x8, zI x9, zI y0, vx11, vx12] (mm_push r []) h3 Q)) :=
  (wp_6 (l2 := [zR (40, 0, 0), vx1, zI x2, zI x3, zI x4, zI x5, zI x6, vx7, zI x8, zI x9, zI y0, vx11, vx12]) rfl).trans ((wp_3_10).trans ((wp_43).trans (mm_ic ((wp_1).trans ((wp_56).trans (rfl))) (mm_kb bq_227_10 ((wp_5_0).trans ((wp_3_6).trans ((wp_3_4).trans ((wp_3_10).trans ((wp_v4 mm_n_185 (mm_leq mm_m_185 (mm_lb rfl)) (mm_lb rfl) (mm_o40 hy)).trans rfl)))))))))
theorem r_227_10_5 (vx1 : mm_V) (x2 : Int) (x3 : Int) (x4 : Int) (x5 : Int) (x6 : Int) (vx7 : mm_V) (x8 : Int) (x9 : Int) (x10 : Int) (vx11 : mm_V) (vx12 : mm_V) (y0 : Int) {hi : mm_Id → Int → Int} {dh : Int → Int} {nx ns : Int} {Q : mm_V → mm_H → Prop} (hy : 10581 ≤ nx) :
    mm_Wp 227 (bk_227_10.drop 5) [zR (40, 0, 0), vx1, zI x2, zI x3, zI x4, zI x5, zI x6, vx7, zI x8, zI x9, zI x10, vx11, vx12] [zI y0] (mm_z hi dh nx ns) Q =
    mm_Wp 227 (mm_blk 227 11) [zR (40, 0, 0), vx1, zI x2, zI x3, zI x4, zI x5, zI x6, vx7, zI x8, zI x9, zI x10, vx11, vx12] [zI y0] (mm_z hi dh nx ns) Q :=
  (wp_0).trans (rfl)
theorem r_227_11 (vx1 : mm_V) (x2 : Int) (x3 : Int) (x4 : Int) (x5 : Int) (x6 : Int) (vx7 : mm_V) (x8 : Int) (x9 : Int) (x10 : Int) (vx11 : mm_V) (vx12 : mm_V) (y0 : Int) {hi : mm_Id → Int → Int} {dh : Int → Int} {nx ns : Int} {Q : mm_V → mm_H → Prop} (hy : 10581 ≤ nx) :
    mm_Wp 227 (mm_blk 227 11) [zR (40, 0, 0), vx1, zI x2, zI x3, zI x4, zI x5, zI x6, vx7, zI x8, zI x9, zI x10, vx11, vx12] [zI y0] (mm_z hi dh nx ns) Q =
    (if x2 = x4 then (if x3 = x5 then mm_Wp 227 (mm_blk 227 13) [zR (40, 0, 0), vx1, zI x2, zI x3, zI x4, zI x5, zI x6, vx7, zI x8, zI x9, zI x10, zI y0, vx12] [zI 1] (mm_z hi dh nx ns) Q else mm_Wp 227 (mm_blk 227 12) [zR (40, 0, 0), vx1, zI x2, zI x3, zI x4, zI x5, zI x6, vx7, zI x8, zI x9, zI x10, zI y0, vx12] [] (mm_z hi dh nx ns) Q) else mm_Wp 227 (mm_blk 227 12) [zR (40, 0, 0), vx1, zI x2, zI x3, zI x4, zI x5, zI x6, vx7, zI x8, zI x9, zI x10, zI y0, vx12] [] (mm_z hi dh nx ns) Q) :=
  mm_kb bq_227_11 ((wp_6 (l2 := [zR (40, 0, 0), vx1, zI x2, zI x3, zI x4, zI x5, zI x6, vx7, zI x8, zI x9, zI x10, zI y0, vx12]) rfl).trans ((wp_3_2).trans ((wp_3_4).trans ((wp_47).trans (mm_ic ((wp_3_3).trans ((wp_3_5).trans ((wp_47).trans (mm_ic ((wp_1).trans ((wp_56).trans (rfl))) (rfl))))) (rfl))))))
theorem r_227_12 (vx1 : mm_V) (x2 : Int) (x3 : Int) (x4 : Int) (x5 : Int) (x6 : Int) (vx7 : mm_V) (x8 : Int) (x9 : Int) (x10 : Int) (x11 : Int) (vx12 : mm_V) {hi : mm_Id → Int → Int} {dh : Int → Int} {nx ns : Int} {Q : mm_V → mm_H → Prop} (hy : 10581 ≤ nx) :
    mm_Wp 227 (mm_blk 227 12) [zR (40, 0, 0), vx1, zI x2, zI x3, zI x4, zI x5, zI x6, vx7, zI x8, zI x9, zI x10, zI x11, vx12] [] (mm_z hi dh nx ns) Q =
    mm_Wp 227 (mm_blk 227 13) [zR (40, 0, 0), vx1, zI x2, zI x3, zI x4, zI x5, zI x6, vx7, zI x8, zI x9, zI x10, zI x11, vx12] [zI 0] (mm_z hi dh nx ns) Q :=
  mm_kb bq_227_12 ((wp_1).trans ((wp_0).trans (rfl)))
theorem r_227_13 (vx1 : mm_V) (x2 : Int) (x3 : Int) (x4 : Int) (x5 : Int) (x6 : Int) (vx7 : mm_V) (x8 : Int) (x9 : Int) (x10 : Int) (x11 : Int) (vx12 : mm_V) (y0 : Int) {hi : mm_Id → Int → Int} {dh : Int → Int} {nx ns : Int} {Q : mm_V → mm_H → Prop} (hy : 10581 ≤ nx) :
    mm_Wp 227 (mm_blk 227 13) [zR (40, 0, 0), vx1, zI x2, zI x3, zI x4, zI x5, zI x6, vx7, zI x8, zI x9, zI x10, zI x11, vx12] [zI y0] (mm_z hi dh nx ns) Q =
    (if y0 = 0 then (if x9 = 0 then mm_Wp 227 (mm_blk 227 14) [zR (40, 0, 0), vx1, zI x2, zI x3, zI x4, zI x5, zI x6, vx7, zI x8, zI x9, zI x10, zI x11, zI y0] [] (mm_z hi dh nx ns) Q else mm_Cl 226 [zR (40, 0, 0), zI x6, zI x4, zI x8] (mm_z hi dh nx ns) (fun r h3 => mm_Wp 227 (bk_227_13.drop 10) [zR (40, 0, 0), vx1, zI x2, zI x3, zI x4, zI x5, zI x6, vx7, zI x8, zI x9, zI x10, zI x11, zI y0] (mm_push r []) h3 Q)) else mm_Wp 227 (mm_blk 227 14) [zR (40, 0, 0), vx1, zI x2, zI x3, zI x4, zI x5, zI x6, vx7, zI x8, zI x9, zI x10, zI x11, zI y0] [] (mm_z hi dh nx ns) Q) :=
  mm_kb bq_227_13 ((wp_6 (l2 := [zR (40, 0, 0), vx1, zI x2, zI x3, zI x4, zI x5, zI x6, vx7, zI x8, zI x9, zI x10, zI x11, zI y0]) rfl).trans ((wp_3_12).trans ((wp_41).trans (mm_ic ((wp_3_9).trans ((wp_40).trans (mm_ic (rfl) ((wp_5_0).trans ((wp_3_6).trans ((wp_3_4).trans ((wp_3_8).trans ((wp_v4 mm_n_226 (mm_leq mm_m_226 (mm_lb rfl)) (mm_lb rfl) (mm_o40 hy)).trans rfl)))))))) (rfl)))))
theorem r_227_14 (vx1 : mm_V) (x2 : Int) (x3 : Int) (x4 : Int) (x5 : Int) (x6 : Int) (vx7 : mm_V) (x8 : Int) (x9 : Int) (x10 : Int) (x11 : Int) (x12 : Int) {hi : mm_Id → Int → Int} {dh : Int → Int} {nx ns : Int} {Q : mm_V → mm_H → Prop} (hy : 10581 ≤ nx) :
    mm_Wp 227 (mm_blk 227 14) [zR (40, 0, 0), vx1, zI x2, zI x3, zI x4, zI x5, zI x6, vx7, zI x8, zI x9, zI x10, zI x11, zI x12] [] (mm_z hi dh nx ns) Q =
    (if x10 < 0 then mm_Wp 227 (mm_blk 227 16) [zR (40, 0, 0), vx1, zI x2, zI x3, zI x4, zI x5, zI x6, vx7, zI x8, zI x9, zI x10, zI x11, zI x12] [] (mm_z hi dh nx ns) Q else (if x12 = 0 then mm_Cl 211 [zR (40, 0, 0), zI x6, zI x11] (mm_z hi dh nx ns) (fun r h3 => mm_Wp 227 (bk_227_14.drop 8) [zR (40, 0, 0), vx1, zI x2, zI x3, zI x4, zI x5, zI x6, vx7, zI x8, zI x9, zI x10, zI x11, zI x12] (mm_push r []) h3 Q) else mm_Wp 227 (mm_blk 227 16) [zR (40, 0, 0), vx1, zI x2, zI x3, zI x4, zI x5, zI x6, vx7, zI x8, zI x9, zI x10, zI x11, zI x12] [] (mm_z hi dh nx ns) Q)) :=
  mm_kb bq_227_14 ((wp_3_10).trans ((wp_42).trans (mm_ic (rfl) ((wp_3_12).trans ((wp_41).trans (mm_ic ((wp_5_0).trans ((wp_3_6).trans ((wp_3_11).trans ((wp_v3 mm_n_211 (mm_leq mm_m_211 (mm_lb rfl)) (mm_lb rfl) (mm_o40 hy)).trans rfl)))) (rfl)))))))
theorem r_227_13_10 (vx1 : mm_V) (x2 : Int) (x3 : Int) (x4 : Int) (x5 : Int) (x6 : Int) (vx7 : mm_V) (x8 : Int) (x9 : Int) (x10 : Int) (x11 : Int) (x12 : Int) (y0 : Int) {hi : mm_Id → Int → Int} {dh : Int → Int} {nx ns : Int} {Q : mm_V → mm_H → Prop} (hy : 10581 ≤ nx) :
    mm_Wp 227 (bk_227_13.drop 10) [zR (40, 0, 0), vx1, zI x2, zI x3, zI x4, zI x5, zI x6, vx7, zI x8, zI x9, zI x10, zI x11, zI x12] [zI y0] (mm_z hi dh nx ns) Q =
    (if y0 = 0 then mm_Wp 227 (mm_blk 227 14) [zR (40, 0, 0), vx1, zI x2, zI x3, zI x4, zI x5, zI x6, vx7, zI x8, zI x9, zI x10, zI x11, zI x12] [] (mm_z hi dh nx ns) Q else Q (zI (-3)) (mm_z hi dh nx ns)) :=
  (wp_40).trans (mm_ic (rfl) ((wp_1).trans (wp_90)))
theorem r_227_16 (vx1 : mm_V) (x2 : Int) (x3 : Int) (x4 : Int) (x5 : Int) (x6 : Int) (vx7 : mm_V) (x8 : Int) (vx9 : mm_V) (x10 : Int) (x11 : Int) (x12 : Int) {hi : mm_Id → Int → Int} {dh : Int → Int} {nx ns : Int} {Q : mm_V → mm_H → Prop} (hy : 10581 ≤ nx) :
    mm_Wp 227 (mm_blk 227 16) [zR (40, 0, 0), vx1, zI x2, zI x3, zI x4, zI x5, zI x6, vx7, zI x8, vx9, zI x10, zI x11, zI x12] [] (mm_z hi dh nx ns) Q =
    (if x10 < 0 then (if x2 = x4 then mm_Wp 227 (mm_blk 227 17) [zR (40, 0, 0), vx1, zI x2, zI x3, zI x4, zI x5, zI x6, vx7, zI x8, vx9, zI x10, zI x11, zI x12] [] (mm_z hi dh nx ns) Q else mm_Cl 175 [zI x6, zI x4] (mm_z hi dh nx ns) (fun r h3 => mm_Wp 227 (bk_227_16.drop 10) [zR (40, 0, 0), vx1, zI x2, zI x3, zI x4, zI x5, zI x6, vx7, zI x8, vx9, zI x10, zI x11, zI x12] (mm_push r [zR (44, 0, 0)]) h3 Q)) else mm_Wp 227 (mm_blk 227 17) [zR (40, 0, 0), vx1, zI x2, zI x3, zI x4, zI x5, zI x6, vx7, zI x8, vx9, zI x10, zI x11, zI x12] [] (mm_z hi dh nx ns) Q) :=
  mm_kb bq_227_16 ((wp_3_10).trans ((wp_43).trans (mm_ic ((wp_3_2).trans ((wp_3_4).trans ((wp_46).trans (mm_ic (rfl) ((wp_5_0).trans ((wp_62 (by decide) (mm_o40 hy) (mm_r40_5 hy)).trans ((wp_3_6).trans ((wp_3_4).trans ((wp_s2 mm_n_175 (mm_leq mm_m_175 (mm_lb rfl)) (mm_lb rfl)).trans rfl))))))))) (rfl))))
theorem r_227_14_8 (vx1 : mm_V) (x2 : Int) (x3 : Int) (x4 : Int) (x5 : Int) (x6 : Int) (vx7 : mm_V) (x8 : Int) (x9 : Int) (x10 : Int) (x11 : Int) (x12 : Int) (y0 : Int) {hi : mm_Id → Int → Int} {dh : Int → Int} {nx ns : Int} {Q : mm_V → mm_H → Prop} (hy : 10581 ≤ nx) :
    mm_Wp 227 (bk_227_14.drop 8) [zR (40, 0, 0), vx1, zI x2, zI x3, zI x4, zI x5, zI x6, vx7, zI x8, zI x9, zI x10, zI x11, zI x12] [zI y0] (mm_z hi dh nx ns) Q =
    (if y0 = 0 then (if x9 = 0 then mm_Wp 227 (mm_blk 227 16) [zR (40, 0, 0), vx1, zI x2, zI x3, zI x4, zI x5, zI x6, vx7, zI x8, zI x9, zI x10, zI x11, zI x12] [] (mm_z hi dh nx ns) Q else mm_Wp 227 (mm_blk 227 15) [zR (40, 0, 0), vx1, zI x2, zI x3, zI x4, zI x5, zI x6, vx7, zI x8, zI x9, zI x10, zI x11, zI x12] [] (mm_z hi dh nx ns) Q) else mm_Wp 227 (mm_blk 227 15) [zR (40, 0, 0), vx1, zI x2, zI x3, zI x4, zI x5, zI x6, vx7, zI x8, zI x9, zI x10, zI x11, zI x12] [] (mm_z hi dh nx ns) Q) :=
  (wp_41).trans (mm_ic ((wp_3_9).trans ((wp_40).trans (mm_ic (rfl) ((wp_0).trans (rfl))))) (rfl))
theorem r_227_17 (vx1 : mm_V) (x2 : Int) (x3 : Int) (x4 : Int) (x5 : Int) (x6 : Int) (vx7 : mm_V) (x8 : Int) (vx9 : mm_V) (x10 : Int) (x11 : Int) (x12 : Int) {hi : mm_Id → Int → Int} {dh : Int → Int} {nx ns : Int} {Q : mm_V → mm_H → Prop} (hy : 10581 ≤ nx) :
    mm_Wp 227 (mm_blk 227 17) [zR (40, 0, 0), vx1, zI x2, zI x3, zI x4, zI x5, zI x6, vx7, zI x8, vx9, zI x10, zI x11, zI x12] [] (mm_z hi dh nx ns) Q =
    (if x12 = 0 then (if x10 < 0 then mm_Wp 227 (mm_blk 227 18) [zR (40, 0, 0), vx1, zI x2, zI x3, zI x4, zI x5, zI x6, vx7, zI x8, vx9, zI x10, zI x11, zI x12] [] (mm_z hi dh nx ns) Q else (if x11 = x8 then mm_Wp 227 (mm_blk 227 18) [zR (40, 0, 0), vx1, zI x2, zI x3, zI x4, zI x5, zI x6, vx7, zI x8, vx9, zI x10, zI x11, zI x12] [] (mm_z hi dh nx ns) Q else mm_Cl 224 [zR (40, 0, 0), zI x6, zI x4, zI x10] (mm_z hi dh nx ns) (fun r h3 => mm_Wp 227 (bk_227_17.drop 12) [zR (40, 0, 0), vx1, zI x2, zI x3, zI x4, zI x5, zI x6, vx7, zI x8, vx9, zI x10, zI x11, zI x12] (mm_push r []) h3 Q))) else mm_Wp 227 (mm_blk 227 20) [zR (40, 0, 0), vx1, zI x2, zI x3, zI x4, zI x5, zI x6, vx7, zI x8, vx9, zI x10, zI x11, zI x12] [] (mm_z hi dh nx ns) Q) :=
  mm_kb bq_227_17 ((wp_3_12).trans ((wp_41).trans (mm_ic ((wp_3_10).trans ((wp_42).trans (mm_ic (rfl) ((wp_3_11).trans ((wp_3_8).trans ((wp_46).trans (mm_ic (rfl) ((wp_5_0).trans ((wp_3_6).trans ((wp_3_4).trans ((wp_3_10).trans ((wp_v4 mm_n_224 (mm_leq mm_m_224 (mm_lb rfl)) (mm_lb rfl) (mm_o40 hy)).trans rfl)))))))))))) (rfl))))
theorem r_227_16_10 (vx1 : mm_V) (x2 : Int) (x3 : Int) (x4 : Int) (x5 : Int) (x6 : Int) (vx7 : mm_V) (x8 : Int) (vx9 : mm_V) (x10 : Int) (x11 : Int) (x12 : Int) (y0 : Int) {hi : mm_Id → Int → Int} {dh : Int → Int} {nx ns : Int} {Q : mm_V → mm_H → Prop} (hy : 10581 ≤ nx) :
    mm_Wp 227 (bk_227_16.drop 10) [zR (40, 0, 0), vx1, zI x2, zI x3, zI x4, zI x5, zI x6, vx7, zI x8, vx9, zI x10, zI x11, zI x12] [zI y0, zR (44, 0, 0)] (mm_z hi dh nx ns) Q =
    ((0 ≤ y0 ∧ y0 < 1044) ∧ (if (hi (44, 0, 0) y0) = 24 then Q (zI (-4)) (mm_z hi dh nx ns) else mm_Wp 227 (mm_blk 227 17) [zR (40, 0, 0), vx1, zI x2, zI x3, zI x4, zI x5, zI x6, vx7, zI x8, vx9, zI x10, zI x11, zI x12] [] (mm_z hi dh nx ns) Q)) :=
  (wp_70 (mm_q44 hy)).trans (mm_ae ((wp_1).trans ((wp_47).trans (mm_ic ((wp_1).trans (wp_90)) (rfl)))))
theorem r_227_15 (vx0 : mm_V) (vx1 : mm_V) (vx2 : mm_V) (vx3 : mm_V) (vx4 : mm_V) (vx5 : mm_V) (vx6 : mm_V) (vx7 : mm_V) (vx8 : mm_V) (vx9 : mm_V) (vx10 : mm_V) (vx11 : mm_V) (vx12 : mm_V) {hi : mm_Id → Int → Int} {dh : Int → Int} {nx ns : Int} {Q : mm_V → mm_H → Prop} (hy : 10581 ≤ nx) :
    mm_Wp 227 (mm_blk 227 15) [vx0, vx1, vx2, vx3, vx4, vx5, vx6, vx7, vx8, vx9, vx10, vx11, vx12] [] (mm_z hi dh nx ns) Q =
    Q (zI (-3)) (mm_z hi dh nx ns) :=
  mm_kb bq_227_15 ((wp_1).trans (wp_90))
theorem r_227_20 (vx1 : mm_V) (vx2 : mm_V) (vx3 : mm_V) (vx4 : mm_V) (vx5 : mm_V) (vx6 : mm_V) (vx7 : mm_V) (x8 : Int) (vx9 : mm_V) (vx10 : mm_V) (vx11 : mm_V) (vx12 : mm_V) {hi : mm_Id → Int → Int} {dh : Int → Int} {nx ns : Int} {Q : mm_V → mm_H → Prop} (hy : 10581 ≤ nx) :
    mm_Wp 227 (mm_blk 227 20) [zR (40, 0, 0), vx1, vx2, vx3, vx4, vx5, vx6, vx7, zI x8, vx9, vx10, vx11, vx12] [] (mm_z hi dh nx ns) Q =
    mm_Cl 209 [zR (40, 0, 0)] (mm_z hi dh nx ns) (fun r h3 => mm_Wp 227 (bk_227_20.drop 2) [zR (40, 0, 0), vx1, vx2, vx3, vx4, vx5, vx6, vx7, zI x8, vx9, vx10, vx11, vx12] (mm_push r []) h3 Q) :=
  mm_kb bq_227_20 ((wp_5_0).trans ((wp_v1 mm_n_209 (mm_leq mm_m_209 (mm_lb rfl)) (mm_lb rfl) (mm_o40 hy)).trans rfl))
theorem r_227_18 (vx1 : mm_V) (x2 : Int) (x3 : Int) (x4 : Int) (x5 : Int) (x6 : Int) (vx7 : mm_V) (x8 : Int) (vx9 : mm_V) (vx10 : mm_V) (x11 : Int) (vx12 : mm_V) {hi : mm_Id → Int → Int} {dh : Int → Int} {nx ns : Int} {Q : mm_V → mm_H → Prop} (hy : 10581 ≤ nx) :
    mm_Wp 227 (mm_blk 227 18) [zR (40, 0, 0), vx1, zI x2, zI x3, zI x4, zI x5, zI x6, vx7, zI x8, vx9, vx10, zI x11, vx12] [] (mm_z hi dh nx ns) Q =
    mm_Cl 184 [zR (40, 0, 0), zI x6, zI x2, zI x3] (mm_z hi dh nx ns) (fun r h3 => mm_Wp 227 (bk_227_18.drop 8) [zR (40, 0, 0), vx1, zI x2, zI x3, zI x4, zI x5, zI x6, vx7, zI x8, vx9, vx10, zI x11, vx12] (mm_push r [zI x2, zI x6, zR (40, 0, 0)]) h3 Q) :=
  mm_kb bq_227_18 ((wp_5_0).trans ((wp_3_6).trans ((wp_3_2).trans ((wp_5_0).trans ((wp_3_6).trans ((wp_3_2).trans ((wp_3_3).trans ((wp_v4 mm_n_184 (mm_leq mm_m_184 (mm_lb rfl)) (mm_lb rfl) (mm_o40 hy)).trans rfl))))))))
theorem r_227_17_12 (vx1 : mm_V) (x2 : Int) (x3 : Int) (x4 : Int) (x5 : Int) (x6 : Int) (vx7 : mm_V) (x8 : Int) (vx9 : mm_V) (vx10 : mm_V) (x11 : Int) (vx12 : mm_V) {hi : mm_Id → Int → Int} {dh : Int → Int} {nx ns : Int} {Q : mm_V → mm_H → Prop} (hy : 10581 ≤ nx) :
    mm_Wp 227 (bk_227_17.drop 12) [zR (40, 0, 0), vx1, zI x2, zI x3, zI x4, zI x5, zI x6, vx7, zI x8, vx9, vx10, zI x11, vx12] [] (mm_z hi dh nx ns) Q =
    mm_Wp 227 (mm_blk 227 18) [zR (40, 0, 0), vx1, zI x2, zI x3, zI x4, zI x5, zI x6, vx7, zI x8, vx9, vx10, zI x11, vx12] [] (mm_z hi dh nx ns) Q :=
  (wp_0).trans (rfl)
theorem r_227_20_2 (vx0 : mm_V) (vx1 : mm_V) (vx2 : mm_V) (vx3 : mm_V) (vx4 : mm_V) (vx5 : mm_V) (vx6 : mm_V) (vx7 : mm_V) (x8 : Int) (vx9 : mm_V) (vx10 : mm_V) (vx11 : mm_V) (vx12 : mm_V) {hi : mm_Id → Int → Int} {dh : Int → Int} {nx ns : Int} {Q : mm_V → mm_H → Prop} (hy : 10581 ≤ nx) :
    mm_Wp 227 (bk_227_20.drop 2) [vx0, vx1, vx2, vx3, vx4, vx5, vx6, vx7, zI x8, vx9, vx10, vx11, vx12] [] (mm_z hi dh nx ns) Q =
    Q (zI x8) (mm_z hi dh nx ns) :=
  (wp_3_8).trans (wp_90)
theorem r_227_18_8 (vx1 : mm_V) (vx2 : mm_V) (vx3 : mm_V) (x4 : Int) (x5 : Int) (x6 : Int) (vx7 : mm_V) (x8 : Int) (vx9 : mm_V) (vx10 : mm_V) (x11 : Int) (vx12 : mm_V) (y0 : Int) (y1 : Int) (y2 : Int) {hi : mm_Id → Int → Int} {dh : Int → Int} {nx ns : Int} {Q : mm_V → mm_H → Prop} (hy : 10581 ≤ nx) :
    mm_Wp 227 (bk_227_18.drop 8) [zR (40, 0, 0), vx1, vx2, vx3, zI x4, zI x5, zI x6, vx7, zI x8, vx9, vx10, zI x11, vx12] [zI y0, zI y1, zI y2, zR (40, 0, 0)] (mm_z hi dh nx ns) Q =
    mm_Cl 187 [zR (40, 0, 0), zI y2, zI y1, zI y0] (mm_z hi dh nx ns) (fun r h3 => mm_Wp 227 (bk_227_18.drop 9) [zR (40, 0, 0), vx1, vx2, vx3, zI x4, zI x5, zI x6, vx7, zI x8, vx9, vx10, zI x11, vx12] (mm_push r []) h3 Q) :=
  (wp_v4 mm_n_187 (mm_leq mm_m_187 (mm_lb rfl)) (mm_lb rfl) (mm_o40 hy)).trans rfl
theorem r_227_18_9 (vx1 : mm_V) (vx2 : mm_V) (vx3 : mm_V) (x4 : Int) (x5 : Int) (x6 : Int) (vx7 : mm_V) (x8 : Int) (vx9 : mm_V) (vx10 : mm_V) (x11 : Int) (vx12 : mm_V) {hi : mm_Id → Int → Int} {dh : Int → Int} {nx ns : Int} {Q : mm_V → mm_H → Prop} (hy : 10581 ≤ nx) :
    mm_Wp 227 (bk_227_18.drop 9) [zR (40, 0, 0), vx1, vx2, vx3, zI x4, zI x5, zI x6, vx7, zI x8, vx9, vx10, zI x11, vx12] [] (mm_z hi dh nx ns) Q =
    (if x11 = x8 then mm_Wp 227 (mm_blk 227 19) [zR (40, 0, 0), vx1, vx2, vx3, zI x4, zI x5, zI x6, vx7, zI x8, vx9, vx10, zI x11, vx12] [] (mm_z hi dh nx ns) Q else mm_Cl 186 [zR (40, 0, 0), zI x6, zI x4, zI x5, zI x8] (mm_z hi dh nx ns) (fun r h3 => mm_Wp 227 (bk_227_18.drop 18) [zR (40, 0, 0), vx1, vx2, vx3, zI x4, zI x5, zI x6, vx7, zI x8, vx9, vx10, zI x11, vx12] (mm_push r []) h3 Q)) :=
  (wp_3_11).trans ((wp_3_8).trans ((wp_46).trans (mm_ic (rfl) ((wp_5_0).trans ((wp_3_6).trans ((wp_3_4).trans ((wp_3_5).trans ((wp_3_8).trans ((wp_v5 mm_n_186 (mm_leq mm_m_186 (mm_lb rfl)) (mm_lb rfl) (mm_o40 hy)).trans rfl)))))))))
theorem r_227_19 (vx1 : mm_V) (vx2 : mm_V) (vx3 : mm_V) (vx4 : mm_V) (vx5 : mm_V) (x6 : Int) (vx7 : mm_V) (x8 : Int) (vx9 : mm_V) (vx10 : mm_V) (vx11 : mm_V) (vx12 : mm_V) {hi : mm_Id → Int → Int} {dh : Int → Int} {nx ns : Int} {Q : mm_V → mm_H → Prop} (hy : 10581 ≤ nx) :
    mm_Wp 227 (mm_blk 227 19) [zR (40, 0, 0), vx1, vx2, vx3, vx4, vx5, zI x6, vx7, zI x8, vx9, vx10, vx11, vx12] [] (mm_z hi dh nx ns) Q =
    mm_Cl 191 [zR (40, 0, 0), zI x6] (mm_z hi dh nx ns) (fun r h3 => mm_Wp 227 (bk_227_19.drop 3) [zR (40, 0, 0), vx1, vx2, vx3, vx4, vx5, zI x6, vx7, zI x8, vx9, vx10, vx11, vx12] (mm_push r []) h3 Q) :=
  mm_kb bq_227_19 ((wp_5_0).trans ((wp_3_6).trans ((wp_v2 mm_n_191 (mm_leq mm_m_191 (mm_lb rfl)) (mm_lb rfl) (mm_o40 hy)).trans rfl)))
theorem r_227_18_18 (vx1 : mm_V) (vx2 : mm_V) (vx3 : mm_V) (vx4 : mm_V) (vx5 : mm_V) (x6 : Int) (vx7 : mm_V) (x8 : Int) (vx9 : mm_V) (vx10 : mm_V) (vx11 : mm_V) (vx12 : mm_V) {hi : mm_Id → Int → Int} {dh : Int → Int} {nx ns : Int} {Q : mm_V → mm_H → Prop} (hy : 10581 ≤ nx) :
    mm_Wp 227 (bk_227_18.drop 18) [zR (40, 0, 0), vx1, vx2, vx3, vx4, vx5, zI x6, vx7, zI x8, vx9, vx10, vx11, vx12] [] (mm_z hi dh nx ns) Q =
    mm_Wp 227 (mm_blk 227 19) [zR (40, 0, 0), vx1, vx2, vx3, vx4, vx5, zI x6, vx7, zI x8, vx9, vx10, vx11, vx12] [] (mm_z hi dh nx ns) Q :=
  (wp_0).trans (rfl)
theorem r_227_19_3 (vx1 : mm_V) (vx2 : mm_V) (vx3 : mm_V) (vx4 : mm_V) (vx5 : mm_V) (vx6 : mm_V) (vx7 : mm_V) (x8 : Int) (vx9 : mm_V) (vx10 : mm_V) (vx11 : mm_V) (vx12 : mm_V) {hi : mm_Id → Int → Int} {dh : Int → Int} {nx ns : Int} {Q : mm_V → mm_H → Prop} (hy : 10581 ≤ nx) :
    mm_Wp 227 (bk_227_19.drop 3) [zR (40, 0, 0), vx1, vx2, vx3, vx4, vx5, vx6, vx7, zI x8, vx9, vx10, vx11, vx12] [] (mm_z hi dh nx ns) Q =
    mm_Wp 227 (mm_blk 227 20) [zR (40, 0, 0), vx1, vx2, vx3, vx4, vx5, vx6, vx7, zI x8, vx9, vx10, vx11, vx12] [] (mm_z hi dh nx ns) Q :=
  (wp_0).trans (rfl)
/-- PoolHouseModel.about(III)I -/
theorem bq_228_0 : mm_blk 228 0 = bk_228_0 := by decide +kernel
theorem bq_228_1 : mm_blk 228 1 = bk_228_1 := by decide +kernel
theorem bq_228_2 : mm_blk 228 2 = bk_228_2 := by decide +kernel
theorem bq_228_3 : mm_blk 228 3 = bk_228_3 := by decide +kernel
theorem bq_228_4 : mm_blk 228 4 = bk_228_4 := by decide +kernel
theorem bq_228_5 : mm_blk 228 5 = bk_228_5 := by decide +kernel
theorem bq_228_6 : mm_blk 228 6 = bk_228_6 := by decide +kernel
theorem bq_228_7 : mm_blk 228 7 = bk_228_7 := by decide +kernel
theorem bq_228_8 : mm_blk 228 8 = bk_228_8 := by decide +kernel
theorem bq_228_9 : mm_blk 228 9 = bk_228_9 := by decide +kernel
theorem bq_228_10 : mm_blk 228 10 = bk_228_10 := by decide +kernel
theorem bq_228_11 : mm_blk 228 11 = bk_228_11 := by decide +kernel
theorem bq_228_12 : mm_blk 228 12 = bk_228_12 := by decide +kernel
theorem bq_228_13 : mm_blk 228 13 = bk_228_13 := by decide +kernel
theorem bq_228_14 : mm_blk 228 14 = bk_228_14 := by decide +kernel
theorem bq_228_15 : mm_blk 228 15 = bk_228_15 := by decide +kernel
theorem bq_228_16 : mm_blk 228 16 = bk_228_16 := by decide +kernel
theorem bq_228_17 : mm_blk 228 17 = bk_228_17 := by decide +kernel
theorem bq_228_18 : mm_blk 228 18 = bk_228_18 := by decide +kernel
theorem r_228_e (x1 : Int) (x2 : Int) (x3 : Int) {hi : mm_Id → Int → Int} {dh : Int → Int} {nx ns : Int} {Q : mm_V → mm_H → Prop} (hy : 10581 ≤ nx) :
    mm_Cl 228 [zR (40, 0, 0), zI x1, zI x2, zI x3] (mm_z hi dh nx ns) Q =
    mm_Cl 181 [zR (40, 0, 0), zI x1] (mm_z (mm_up hi (40, 0, 0) 0 0) dh nx ns) (fun r h3 => mm_Wp 228 (bk_228_0.drop 6) [zR (40, 0, 0), zI x1, zI x2, zI x3, zU, zU, zU, zU] (mm_push r []) h3 Q) :=
  mm_ce (l2 := [zR (40, 0, 0), zI x1, zI x2, zI x3, zU, zU, zU, zU]) rfl (mm_kb bq_228_0 ((wp_5_0).trans ((wp_1).trans ((wp_63 (mm_o40 hy)).trans ((wp_5_0).trans ((wp_3_1).trans ((wp_v2 mm_n_181 (mm_leq mm_m_181 (mm_lb rfl)) (mm_lb rfl) (mm_o40 hy)).trans rfl)))))))
theorem r_228_0_6 (vx1 : mm_V) (x2 : Int) (x3 : Int) (vx4 : mm_V) (vx5 : mm_V) (vx6 : mm_V) (vx7 : mm_V) (y0 : Int) {hi : mm_Id → Int → Int} {dh : Int → Int} {nx ns : Int} {Q : mm_V → mm_H → Prop} (hy : 10581 ≤ nx) :
    mm_Wp 228 (bk_228_0.drop 6) [zR (40, 0, 0), vx1, zI x2, zI x3, vx4, vx5, vx6, vx7] [zI y0] (mm_z hi dh nx ns) Q =
    mm_Cl 210 [zR (40, 0, 0), zI y0, zI x2] (mm_z hi dh nx ns) (fun r h3 => mm_Wp 228 (bk_228_0.drop 11) [zR (40, 0, 0), vx1, zI x2, zI x3, zI y0, vx5, vx6, vx7] (mm_push r []) h3 Q) :=
  (wp_6 (l2 := [zR (40, 0, 0), vx1, zI x2, zI x3, zI y0, vx5, vx6, vx7]) rfl).trans ((wp_5_0).trans ((wp_3_4).trans ((wp_3_2).trans ((wp_v3 mm_n_210 (mm_leq mm_m_210 (mm_lb rfl)) (mm_lb rfl) (mm_o40 hy)).trans rfl))))
theorem r_228_0_11 (vx1 : mm_V) (x2 : Int) (x3 : Int) (x4 : Int) (vx5 : mm_V) (vx6 : mm_V) (vx7 : mm_V) (y0 : Int) {hi : mm_Id → Int → Int} {dh : Int → Int} {nx ns : Int} {Q : mm_V → mm_H → Prop} (hy : 10581 ≤ nx) :
    mm_Wp 228 (bk_228_0.drop 11) [zR (40, 0, 0), vx1, zI x2, zI x3, zI x4, vx5, vx6, vx7] [zI y0] (mm_z hi dh nx ns) Q =
    (if y0 = 0 then Q (zI (-1)) (mm_z hi dh nx ns) else mm_Cl 175 [zI x4, zI x2] (mm_z hi dh nx ns) (fun r h3 => mm_Wp 228 (bk_228_1.drop 3) [zR (40, 0, 0), vx1, zI x2, zI x3, zI x4, vx5, vx6, vx7] (mm_push r []) h3 Q)) :=
  (wp_41).trans (mm_ic ((wp_1).trans (wp_90)) (mm_kb bq_228_1 ((wp_3_4).trans ((wp_3_2).trans ((wp_s2 mm_n_175 (mm_leq mm_m_175 (mm_lb rfl)) (mm_lb rfl)).trans rfl)))))
theorem r_228_1_3 (vx1 : mm_V) (x2 : Int) (x3 : Int) (x4 : Int) (vx5 : mm_V) (vx6 : mm_V) (vx7 : mm_V) (y0 : Int) {hi : mm_Id → Int → Int} {dh : Int → Int} {nx ns : Int} {Q : mm_V → mm_H → Prop} (hy : 10581 ≤ nx) :
    mm_Wp 228 (bk_228_1.drop 3) [zR (40, 0, 0), vx1, zI x2, zI x3, zI x4, vx5, vx6, vx7] [zI y0] (mm_z hi dh nx ns) Q =
    mm_Wp 228 (mm_blk 228 (mm_sw 3 x3)) [zR (40, 0, 0), vx1, zI x2, zI x3, zI x4, zI y0, vx6, vx7] [] (mm_z hi dh nx ns) Q :=
  (wp_6 (l2 := [zR (40, 0, 0), vx1, zI x2, zI x3, zI x4, zI y0, vx6, vx7]) rfl).trans ((wp_3_3).trans (wp_57 rfl))
theorem r_228_2 (vx1 : mm_V) (vx2 : mm_V) (vx3 : mm_V) (vx4 : mm_V) (x5 : Int) (vx6 : mm_V) (vx7 : mm_V) {hi : mm_Id → Int → Int} {dh : Int → Int} {nx ns : Int} {Q : mm_V → mm_H → Prop} (hy : 10581 ≤ nx) :
    mm_Wp 228 (mm_blk 228 2) [zR (40, 0, 0), vx1, vx2, vx3, vx4, zI x5, vx6, vx7] [] (mm_z hi dh nx ns) Q =
    ((0 ≤ x5 ∧ x5 < 1044) ∧ Q (zI (hi (41, 0, 0) x5)) (mm_z hi dh nx ns)) :=
  mm_kb bq_228_2 ((wp_5_0).trans ((wp_62 (by decide) (mm_o40 hy) (mm_r40_2 hy)).trans ((wp_3_5).trans ((wp_70 (mm_q41 hy)).trans (mm_ae (wp_90))))))
theorem r_228_3 (vx1 : mm_V) (vx2 : mm_V) (vx3 : mm_V) (vx4 : mm_V) (x5 : Int) (vx6 : mm_V) (vx7 : mm_V) {hi : mm_Id → Int → Int} {dh : Int → Int} {nx ns : Int} {Q : mm_V → mm_H → Prop} (hy : 10581 ≤ nx) :
    mm_Wp 228 (mm_blk 228 3) [zR (40, 0, 0), vx1, vx2, vx3, vx4, zI x5, vx6, vx7] [] (mm_z hi dh nx ns) Q =
    ((0 ≤ x5 ∧ x5 < 1044) ∧ (if (hi (41, 0, 0) x5) = 2 then ((0 ≤ x5 ∧ x5 < 1044) ∧ mm_Wp 228 (mm_blk 228 5) [zR (40, 0, 0), vx1, vx2, vx3, vx4, zI x5, vx6, vx7] [zI (hi (44, 0, 0) x5)] (mm_z hi dh nx ns) Q) else ((0 ≤ x5 ∧ x5 < 1044) ∧ mm_Wp 228 (mm_blk 228 5) [zR (40, 0, 0), vx1, vx2, vx3, vx4, zI x5, vx6, vx7] [zI (hi (42, 0, 0) x5)] (mm_z hi dh nx ns) Q))) :=
  mm_kb bq_228_3 ((wp_5_0).trans ((wp_62 (by decide) (mm_o40 hy) (mm_r40_2 hy)).trans ((wp_3_5).trans ((wp_70 (mm_q41 hy)).trans (mm_ae ((wp_1).trans ((wp_47).trans (mm_ic ((wp_5_0).trans ((wp_62 (by decide) (mm_o40 hy) (mm_r40_5 hy)).trans ((wp_3_5).trans ((wp_70 (mm_q44 hy)).trans (mm_ae ((wp_56).trans (rfl))))))) (mm_kb bq_228_4 ((wp_5_0).trans ((wp_62 (by decide) (mm_o40 hy) (mm_r40_3 hy)).trans ((wp_3_5).trans ((wp_70 (mm_q42 hy)).trans (mm_ae ((wp_0).trans (rfl))))))))))))))))
theorem r_228_6 (vx1 : mm_V) (x2 : Int) (vx3 : mm_V) (x4 : Int) (vx5 : mm_V) (vx6 : mm_V) (vx7 : mm_V) {hi : mm_Id → Int → Int} {dh : Int → Int} {nx ns : Int} {Q : mm_V → mm_H → Prop} (hy : 10581 ≤ nx) :
    mm_Wp 228 (mm_blk 228 6) [zR (40, 0, 0), vx1, zI x2, vx3, zI x4, vx5, vx6, vx7] [] (mm_z hi dh nx ns) Q =
    mm_Cl 188 [zR (40, 0, 0), zI x4, zI x2] (mm_z hi dh nx ns) (fun r h3 => mm_Wp 228 (bk_228_6.drop 4) [zR (40, 0, 0), vx1, zI x2, vx3, zI x4, vx5, vx6, vx7] (mm_push r []) h3 Q) :=
  mm_kb bq_228_6 ((wp_5_0).trans ((wp_3_4).trans ((wp_3_2).trans ((wp_v3 mm_n_188 (mm_leq mm_m_188 (mm_lb rfl)) (mm_lb rfl) (mm_o40 hy)).trans rfl))))
theorem r_228_7 (vx1 : mm_V) (vx2 : mm_V) (vx3 : mm_V) (vx4 : mm_V) (x5 : Int) (vx6 : mm_V) (vx7 : mm_V) {hi : mm_Id → Int → Int} {dh : Int → Int} {nx ns : Int} {Q : mm_V → mm_H → Prop} (hy : 10581 ≤ nx) :
    mm_Wp 228 (mm_blk 228 7) [zR (40, 0, 0), vx1, vx2, vx3, vx4, zI x5, vx6, vx7] [] (mm_z hi dh nx ns) Q =
    mm_Wp 228 (mm_blk 228 8) [zR (40, 0, 0), vx1, vx2, vx3, vx4, zI x5, zI 0, zI 0] [] (mm_z hi dh nx ns) Q :=
  mm_kb bq_228_7 ((wp_1).trans ((wp_6 (l2 := [zR (40, 0, 0), vx1, vx2, vx3, vx4, zI x5, zI 0, vx7]) rfl).trans ((wp_1).trans ((wp_6 (l2 := [zR (40, 0, 0), vx1, vx2, vx3, vx4, zI x5, zI 0, zI 0]) rfl).trans ((wp_0).trans (rfl))))))
theorem r_228_12 (vx1 : mm_V) (x2 : Int) (vx3 : mm_V) (x4 : Int) (x5 : Int) (vx6 : mm_V) (vx7 : mm_V) {hi : mm_Id → Int → Int} {dh : Int → Int} {nx ns : Int} {Q : mm_V → mm_H → Prop} (hy : 10581 ≤ nx) :
    mm_Wp 228 (mm_blk 228 12) [zR (40, 0, 0), vx1, zI x2, vx3, zI x4, zI x5, vx6, vx7] [] (mm_z hi dh nx ns) Q =
    ((0 ≤ x5 ∧ x5 < 1044) ∧ (if (hi (41, 0, 0) x5) = 1 then mm_Wp 228 (mm_blk 228 14) [zR (40, 0, 0), vx1, zI x2, vx3, zI x4, zI x5, vx6, vx7] [zI 0] (mm_z hi dh nx ns) Q else mm_Cl 189 [zR (40, 0, 0), zI x4, zI x2] (mm_z hi dh nx ns) (fun r h3 => mm_Wp 228 (bk_228_13.drop 4) [zR (40, 0, 0), vx1, zI x2, vx3, zI x4, zI x5, vx6, vx7] (mm_push r []) h3 Q))) :=
  mm_kb bq_228_12 ((wp_5_0).trans ((wp_62 (by decide) (mm_o40 hy) (mm_r40_2 hy)).trans ((wp_3_5).trans ((wp_70 (mm_q41 hy)).trans (mm_ae ((wp_1).trans ((wp_47).trans (mm_ic ((wp_1).trans ((wp_56).trans (rfl))) (mm_kb bq_228_13 ((wp_5_0).trans ((wp_3_4).trans ((wp_3_2).trans ((wp_v3 mm_n_189 (mm_leq mm_m_189 (mm_lb rfl)) (mm_lb rfl) (mm_o40 hy)).trans rfl)))))))))))))
theorem r_228_15 (vx1 : mm_V) (vx2 : mm_V) (vx3 : mm_V) (vx4 : mm_V) (x5 : Int) (vx6 : mm_V) (vx7 : mm_V) {hi : mm_Id → Int → Int} {dh : Int → Int} {nx ns : Int} {Q : mm_V → mm_H → Prop} (hy : 10581 ≤ nx) :
    mm_Wp 228 (mm_blk 228 15) [zR (40, 0, 0), vx1, vx2, vx3, vx4, zI x5, vx6, vx7] [] (mm_z hi dh nx ns) Q =
    ((0 ≤ x5 ∧ x5 < 1044) ∧ Q (zI (hi (47, 0, 0) x5)) (mm_z hi dh nx ns)) :=
  mm_kb bq_228_15 ((wp_5_0).trans ((wp_62 (by decide) (mm_o40 hy) (mm_r40_8 hy)).trans ((wp_3_5).trans ((wp_70 (mm_q47 hy)).trans (mm_ae (wp_90))))))
theorem r_228_16 (vx1 : mm_V) (vx2 : mm_V) (vx3 : mm_V) (vx4 : mm_V) (x5 : Int) (vx6 : mm_V) (vx7 : mm_V) {hi : mm_Id → Int → Int} {dh : Int → Int} {nx ns : Int} {Q : mm_V → mm_H → Prop} (hy : 10581 ≤ nx) :
    mm_Wp 228 (mm_blk 228 16) [zR (40, 0, 0), vx1, vx2, vx3, vx4, zI x5, vx6, vx7] [] (mm_z hi dh nx ns) Q =
    ((0 ≤ x5 ∧ x5 < 1044) ∧ Q (zI (hi (48, 0, 0) x5)) (mm_z hi dh nx ns)) :=
  mm_kb bq_228_16 ((wp_5_0).trans ((wp_62 (by decide) (mm_o40 hy) (mm_r40_9 hy)).trans ((wp_3_5).trans ((wp_70 (mm_q48 hy)).trans (mm_ae (wp_90))))))
theorem r_228_17 (vx1 : mm_V) (vx2 : mm_V) (vx3 : mm_V) (vx4 : mm_V) (x5 : Int) (vx6 : mm_V) (vx7 : mm_V) {hi : mm_Id → Int → Int} {dh : Int → Int} {nx ns : Int} {Q : mm_V → mm_H → Prop} (hy : 10581 ≤ nx) :
    mm_Wp 228 (mm_blk 228 17) [zR (40, 0, 0), vx1, vx2, vx3, vx4, zI x5, vx6, vx7] [] (mm_z hi dh nx ns) Q =
    ((0 ≤ x5 ∧ x5 < 1044) ∧ Q (zI (hi (49, 0, 0) x5)) (mm_z hi dh nx ns)) :=
  mm_kb bq_228_17 ((wp_5_0).trans ((wp_62 (by decide) (mm_o40 hy) (mm_r40_10 hy)).trans ((wp_3_5).trans ((wp_70 (mm_q49 hy)).trans (mm_ae (wp_90))))))
theorem r_228_18 (vx0 : mm_V) (vx1 : mm_V) (vx2 : mm_V) (vx3 : mm_V) (vx4 : mm_V) (vx5 : mm_V) (vx6 : mm_V) (vx7 : mm_V) {hi : mm_Id → Int → Int} {dh : Int → Int} {nx ns : Int} {Q : mm_V → mm_H → Prop} (hy : 10581 ≤ nx) :
    mm_Wp 228 (mm_blk 228 18) [vx0, vx1, vx2, vx3, vx4, vx5, vx6, vx7] [] (mm_z hi dh nx ns) Q =
    Q (zI (-2)) (mm_z hi dh nx ns) :=
  mm_kb bq_228_18 ((wp_1).trans (wp_90))
theorem r_228_5 (vx0 : mm_V) (vx1 : mm_V) (vx2 : mm_V) (vx3 : mm_V) (vx4 : mm_V) (vx5 : mm_V) (vx6 : mm_V) (vx7 : mm_V) (y0 : Int) {hi : mm_Id → Int → Int} {dh : Int → Int} {nx ns : Int} {Q : mm_V → mm_H → Prop} (hy : 10581 ≤ nx) :
    mm_Wp 228 (mm_blk 228 5) [vx0, vx1, vx2, vx3, vx4, vx5, vx6, vx7] [zI y0] (mm_z hi dh nx ns) Q =
    Q (zI y0) (mm_z hi dh nx ns) :=
  mm_kb bq_228_5 (wp_90)
theorem r_228_6_4 (vx0 : mm_V) (vx1 : mm_V) (vx2 : mm_V) (vx3 : mm_V) (vx4 : mm_V) (vx5 : mm_V) (vx6 : mm_V) (vx7 : mm_V) (y0 : Int) {hi : mm_Id → Int → Int} {dh : Int → Int} {nx ns : Int} {Q : mm_V → mm_H → Prop} (hy : 10581 ≤ nx) :
    mm_Wp 228 (bk_228_6.drop 4) [vx0, vx1, vx2, vx3, vx4, vx5, vx6, vx7] [zI y0] (mm_z hi dh nx ns) Q =
    Q (zI y0) (mm_z hi dh nx ns) :=
  wp_90
theorem r_228_8 (vx1 : mm_V) (vx2 : mm_V) (vx3 : mm_V) (vx4 : mm_V) (x5 : Int) (x6 : Int) (x7 : Int) {hi : mm_Id → Int → Int} {dh : Int → Int} {nx ns : Int} {Q : mm_V → mm_H → Prop} (hy : 10581 ≤ nx) :
    mm_Wp 228 (mm_blk 228 8) [zR (40, 0, 0), vx1, vx2, vx3, vx4, zI x5, zI x6, zI x7] [] (mm_z hi dh nx ns) Q =
    (if x7 < 36 then ((0 ≤ x5 ∧ x5 < 1044) ∧ (if (hi (41, 0, 0) x5) = 1 then ((0 ≤ (mm_w ((mm_w (36 * x5)) + x7)) ∧ (mm_w ((mm_w (36 * x5)) + x7)) < 37584) ∧ (if 0 < (hi (43, 0, 0) (mm_w ((mm_w (36 * x5)) + x7))) then mm_Wp 228 (mm_blk 228 10) [zR (40, 0, 0), vx1, vx2, vx3, vx4, zI x5, zI x6, zI x7] [zI 1, zI x6] (mm_z hi dh nx ns) Q else mm_Wp 228 (mm_blk 228 9) [zR (40, 0, 0), vx1, vx2, vx3, vx4, zI x5, zI x6, zI x7] [zI x6] (mm_z hi dh nx ns) Q)) else mm_Wp 228 (mm_blk 228 9) [zR (40, 0, 0), vx1, vx2, vx3, vx4, zI x5, zI x6, zI x7] [zI x6] (mm_z hi dh nx ns) Q)) else Q (zI x6) (mm_z hi dh nx ns)) :=
  mm_kb bq_228_8 ((wp_3_7).trans ((wp_1).trans ((wp_49).trans (mm_ic ((wp_3_6).trans ((wp_5_0).trans ((wp_62 (by decide) (mm_o40 hy) (mm_r40_2 hy)).trans ((wp_3_5).trans ((wp_70 (mm_q41 hy)).trans (mm_ae ((wp_1).trans ((wp_47).trans (mm_ic ((wp_5_0).trans ((wp_62 (by decide) (mm_o40 hy) (mm_r40_4 hy)).trans ((wp_1).trans ((wp_3_5).trans ((wp_12).trans ((wp_3_7).trans ((wp_10).trans ((wp_70 (mm_q43 hy)).trans (mm_ae ((wp_45).trans (mm_ic ((wp_1).trans ((wp_56).trans (rfl))) (rfl)))))))))))) (rfl)))))))))) (mm_kb bq_228_11 ((wp_3_6).trans (wp_90)))))))
theorem r_228_13_4 (vx0 : mm_V) (vx1 : mm_V) (vx2 : mm_V) (vx3 : mm_V) (vx4 : mm_V) (vx5 : mm_V) (vx6 : mm_V) (vx7 : mm_V) (y0 : Int) {hi : mm_Id → Int → Int} {dh : Int → Int} {nx ns : Int} {Q : mm_V → mm_H → Prop} (hy : 10581 ≤ nx) :
    mm_Wp 228 (bk_228_13.drop 4) [vx0, vx1, vx2, vx3, vx4, vx5, vx6, vx7] [zI y0] (mm_z hi dh nx ns) Q =
    mm_Wp 228 (mm_blk 228 14) [vx0, vx1, vx2, vx3, vx4, vx5, vx6, vx7] [zI y0] (mm_z hi dh nx ns) Q :=
  (wp_0).trans (rfl)
theorem r_228_14 (vx0 : mm_V) (vx1 : mm_V) (vx2 : mm_V) (vx3 : mm_V) (vx4 : mm_V) (vx5 : mm_V) (vx6 : mm_V) (vx7 : mm_V) (y0 : Int) {hi : mm_Id → Int → Int} {dh : Int → Int} {nx ns : Int} {Q : mm_V → mm_H → Prop} (hy : 10581 ≤ nx) :
    mm_Wp 228 (mm_blk 228 14) [vx0, vx1, vx2, vx3, vx4, vx5, vx6, vx7] [zI y0] (mm_z hi dh nx ns) Q =
    Q (zI y0) (mm_z hi dh nx ns) :=
  mm_kb bq_228_14 (wp_90)
theorem r_228_9 (vx1 : mm_V) (vx2 : mm_V) (vx3 : mm_V) (vx4 : mm_V) (x5 : Int) (vx6 : mm_V) (x7 : Int) (y0 : Int) {hi : mm_Id → Int → Int} {dh : Int → Int} {nx ns : Int} {Q : mm_V → mm_H → Prop} (hy : 10581 ≤ nx) :
    mm_Wp 228 (mm_blk 228 9) [zR (40, 0, 0), vx1, vx2, vx3, vx4, zI x5, vx6, zI x7] [zI y0] (mm_z hi dh nx ns) Q =
    mm_Wp 228 (mm_blk 228 10) [zR (40, 0, 0), vx1, vx2, vx3, vx4, zI x5, vx6, zI x7] [zI 0, zI y0] (mm_z hi dh nx ns) Q :=
  mm_kb bq_228_9 ((wp_1).trans ((wp_0).trans (rfl)))
theorem r_228_10 (vx1 : mm_V) (vx2 : mm_V) (vx3 : mm_V) (vx4 : mm_V) (x5 : Int) (vx6 : mm_V) (x7 : Int) (y0 : Int) (y1 : Int) {hi : mm_Id → Int → Int} {dh : Int → Int} {nx ns : Int} {Q : mm_V → mm_H → Prop} (hy : 10581 ≤ nx) :
    mm_Wp 228 (mm_blk 228 10) [zR (40, 0, 0), vx1, vx2, vx3, vx4, zI x5, vx6, zI x7] [zI y0, zI y1] (mm_z hi dh nx ns) Q =
    mm_Wp 228 (mm_blk 228 8) [zR (40, 0, 0), vx1, vx2, vx3, vx4, zI x5, zI (mm_w (y1 + y0)), zI (mm_w (x7 + 1))] [] (mm_z hi dh nx ns) Q :=
  mm_kb bq_228_10 ((wp_10).trans ((wp_6 (l2 := [zR (40, 0, 0), vx1, vx2, vx3, vx4, zI x5, zI (mm_w (y1 + y0)), zI x7]) rfl).trans ((wp_9 (l2 := [zR (40, 0, 0), vx1, vx2, vx3, vx4, zI x5, zI (mm_w (y1 + y0)), zI (mm_w (x7 + 1))]) rfl rfl).trans ((wp_56).trans (rfl)))))
/-- PoolHouseModel.entry(III)I -/
theorem bq_229_0 : mm_blk 229 0 = bk_229_0 := by decide +kernel
theorem bq_229_1 : mm_blk 229 1 = bk_229_1 := by decide +kernel
theorem bq_229_2 : mm_blk 229 2 = bk_229_2 := by decide +kernel
theorem bq_229_3 : mm_blk 229 3 = bk_229_3 := by decide +kernel
theorem bq_229_4 : mm_blk 229 4 = bk_229_4 := by decide +kernel
theorem bq_229_5 : mm_blk 229 5 = bk_229_5 := by decide +kernel
theorem r_229_e (x1 : Int) (x2 : Int) (x3 : Int) {hi : mm_Id → Int → Int} {dh : Int → Int} {nx ns : Int} {Q : mm_V → mm_H → Prop} (hy : 10581 ≤ nx) :
    mm_Cl 229 [zR (40, 0, 0), zI x1, zI x2, zI x3] (mm_z hi dh nx ns) Q =
    mm_Cl 181 [zR (40, 0, 0), zI x1] (mm_z (mm_up hi (40, 0, 0) 0 0) dh nx ns) (fun r h3 => mm_Wp 229 (bk_229_0.drop 6) [zR (40, 0, 0), zI x1, zI x2, zI x3, zU] (mm_push r []) h3 Q) :=
  mm_ce (l2 := [zR (40, 0, 0), zI x1, zI x2, zI x3, zU]) rfl (mm_kb bq_229_0 ((wp_5_0).trans ((wp_1).trans ((wp_63 (mm_o40 hy)).trans ((wp_5_0).trans ((wp_3_1).trans ((wp_v2 mm_n_181 (mm_leq mm_m_181 (mm_lb rfl)) (mm_lb rfl) (mm_o40 hy)).trans rfl)))))))
theorem r_229_0_6 (vx1 : mm_V) (x2 : Int) (x3 : Int) (vx4 : mm_V) (y0 : Int) {hi : mm_Id → Int → Int} {dh : Int → Int} {nx ns : Int} {Q : mm_V → mm_H → Prop} (hy : 10581 ≤ nx) :
    mm_Wp 229 (bk_229_0.drop 6) [zR (40, 0, 0), vx1, zI x2, zI x3, vx4] [zI y0] (mm_z hi dh nx ns) Q =
    mm_Cl 210 [zR (40, 0, 0), zI y0, zI x2] (mm_z hi dh nx ns) (fun r h3 => mm_Wp 229 (bk_229_0.drop 11) [zR (40, 0, 0), vx1, zI x2, zI x3, zI y0] (mm_push r []) h3 Q) :=
  (wp_6 (l2 := [zR (40, 0, 0), vx1, zI x2, zI x3, zI y0]) rfl).trans ((wp_5_0).trans ((wp_3_4).trans ((wp_3_2).trans ((wp_v3 mm_n_210 (mm_leq mm_m_210 (mm_lb rfl)) (mm_lb rfl) (mm_o40 hy)).trans rfl))))
theorem r_229_0_11 (vx1 : mm_V) (x2 : Int) (x3 : Int) (x4 : Int) (y0 : Int) {hi : mm_Id → Int → Int} {dh : Int → Int} {nx ns : Int} {Q : mm_V → mm_H → Prop} (hy : 10581 ≤ nx) :
    mm_Wp 229 (bk_229_0.drop 11) [zR (40, 0, 0), vx1, zI x2, zI x3, zI x4] [zI y0] (mm_z hi dh nx ns) Q =
    (if y0 = 0 then Q (zI (-1)) (mm_z hi dh nx ns) else mm_Cl 211 [zR (40, 0, 0), zI x4, zI x2] (mm_z hi dh nx ns) (fun r h3 => mm_Wp 229 (bk_229_1.drop 4) [zR (40, 0, 0), vx1, zI x2, zI x3, zI x4] (mm_push r []) h3 Q)) :=
  (wp_41).trans (mm_ic ((wp_1).trans (wp_90)) (mm_kb bq_229_1 ((wp_5_0).trans ((wp_3_4).trans ((wp_3_2).trans ((wp_v3 mm_n_211 (mm_leq mm_m_211 (mm_lb rfl)) (mm_lb rfl) (mm_o40 hy)).trans rfl))))))
theorem r_229_1_4 (vx1 : mm_V) (x2 : Int) (x3 : Int) (x4 : Int) (y0 : Int) {hi : mm_Id → Int → Int} {dh : Int → Int} {nx ns : Int} {Q : mm_V → mm_H → Prop} (hy : 10581 ≤ nx) :
    mm_Wp 229 (bk_229_1.drop 4) [zR (40, 0, 0), vx1, zI x2, zI x3, zI x4] [zI y0] (mm_z hi dh nx ns) Q =
    (if y0 = 0 then Q (zI (-3)) (mm_z hi dh nx ns) else mm_Cl 203 [zR (40, 0, 0), zI x4, zI x2, zI 4] (mm_z hi dh nx ns) (fun r h3 => mm_Wp 229 (bk_229_2.drop 5) [zR (40, 0, 0), vx1, zI x2, zI x3, zI x4] (mm_push r []) h3 Q)) :=
  (wp_41).trans (mm_ic ((wp_1).trans (wp_90)) (mm_kb bq_229_2 ((wp_5_0).trans ((wp_3_4).trans ((wp_3_2).trans ((wp_1).trans ((wp_v4 mm_n_203 (mm_leq mm_m_203 (mm_lb rfl)) (mm_lb rfl) (mm_o40 hy)).trans rfl)))))))
theorem r_229_2_5 (vx1 : mm_V) (x2 : Int) (x3 : Int) (x4 : Int) (y0 : Int) {hi : mm_Id → Int → Int} {dh : Int → Int} {nx ns : Int} {Q : mm_V → mm_H → Prop} (hy : 10581 ≤ nx) :
    mm_Wp 229 (bk_229_2.drop 5) [zR (40, 0, 0), vx1, zI x2, zI x3, zI x4] [zI y0] (mm_z hi dh nx ns) Q =
    (if y0 = 0 then Q (zI (-5)) (mm_z hi dh nx ns) else mm_Cl 175 [zI x4, zI x2] (mm_z hi dh nx ns) (fun r h3 => mm_Wp 229 (bk_229_3.drop 8) [zR (40, 0, 0), vx1, zI x2, zI x3, zI x4] (mm_push r [zR (44, 0, 0), zL 0, zL x3]) h3 Q)) :=
  (wp_41).trans (mm_ic ((wp_1).trans (wp_90)) (mm_kb bq_229_3 ((wp_3_3).trans ((wp_31).trans ((wp_2).trans ((wp_5_0).trans ((wp_62 (by decide) (mm_o40 hy) (mm_r40_5 hy)).trans ((wp_3_4).trans ((wp_3_2).trans ((wp_s2 mm_n_175 (mm_leq mm_m_175 (mm_lb rfl)) (mm_lb rfl)).trans rfl))))))))))
theorem r_229_3_8 (vx1 : mm_V) (x2 : Int) (x3 : Int) (x4 : Int) (y0 : Int) (y2 : Int) (y3 : Int) {hi : mm_Id → Int → Int} {dh : Int → Int} {nx ns : Int} {Q : mm_V → mm_H → Prop} (hy : 10581 ≤ nx) :
    mm_Wp 229 (bk_229_3.drop 8) [zR (40, 0, 0), vx1, zI x2, zI x3, zI x4] [zI y0, zR (44, 0, 0), zL y2, zL y3] (mm_z hi dh nx ns) Q =
    ((0 ≤ y0 ∧ y0 < 1044) ∧ mm_Cl 174 [zL y3, zL y2, zL (mm_w ((hi (44, 0, 0) y0) - 1))] (mm_z hi dh nx ns) (fun r h3 => mm_Wp 229 (bk_229_3.drop 13) [zR (40, 0, 0), vx1, zI x2, zI x3, zI x4] (mm_push r []) h3 Q)) :=
  (wp_70 (mm_q44 hy)).trans (mm_ae ((wp_1).trans ((wp_11).trans ((wp_31).trans ((wp_s3 mm_n_174 (mm_leq mm_m_174 (mm_lb rfl)) (mm_lb rfl)).trans rfl)))))
theorem r_229_3_13 (vx1 : mm_V) (x2 : Int) (x3 : Int) (x4 : Int) (y0 : Int) {hi : mm_Id → Int → Int} {dh : Int → Int} {nx ns : Int} {Q : mm_V → mm_H → Prop} (hy : 10581 ≤ nx) :
    mm_Wp 229 (bk_229_3.drop 13) [zR (40, 0, 0), vx1, zI x2, zI x3, zI x4] [zI y0] (mm_z hi dh nx ns) Q =
    (if y0 = 0 then mm_Wp 229 (mm_blk 229 5) [zR (40, 0, 0), vx1, zI x2, zI x3, zI x4] [zI (-2)] (mm_z hi dh nx ns) Q else mm_Cl 175 [zI x4, zI x2] (mm_z hi dh nx ns) (fun r h3 => mm_Wp 229 (bk_229_3.drop 20) [zR (40, 0, 0), vx1, zI x2, zI x3, zI x4] (mm_push r [zI 24, zR (45, 0, 0)]) h3 Q)) :=
  (wp_40).trans (mm_ic (mm_kb bq_229_4 ((wp_1).trans ((wp_0).trans (rfl)))) ((wp_5_0).trans ((wp_62 (by decide) (mm_o40 hy) (mm_r40_6 hy)).trans ((wp_1).trans ((wp_3_4).trans ((wp_3_2).trans ((wp_s2 mm_n_175 (mm_leq mm_m_175 (mm_lb rfl)) (mm_lb rfl)).trans rfl)))))))
theorem r_229_5 (vx0 : mm_V) (vx1 : mm_V) (vx2 : mm_V) (vx3 : mm_V) (vx4 : mm_V) (y0 : Int) {hi : mm_Id → Int → Int} {dh : Int → Int} {nx ns : Int} {Q : mm_V → mm_H → Prop} (hy : 10581 ≤ nx) :
    mm_Wp 229 (mm_blk 229 5) [vx0, vx1, vx2, vx3, vx4] [zI y0] (mm_z hi dh nx ns) Q =
    Q (zI y0) (mm_z hi dh nx ns) :=
  mm_kb bq_229_5 (wp_90)
theorem r_229_3_20 (vx0 : mm_V) (vx1 : mm_V) (vx2 : mm_V) (x3 : Int) (vx4 : mm_V) (y0 : Int) (y1 : Int) {hi : mm_Id → Int → Int} {dh : Int → Int} {nx ns : Int} {Q : mm_V → mm_H → Prop} (hy : 10581 ≤ nx) :
    mm_Wp 229 (bk_229_3.drop 20) [vx0, vx1, vx2, zI x3, vx4] [zI y0, zI y1, zR (45, 0, 0)] (mm_z hi dh nx ns) Q =
    ((0 ≤ (mm_w ((mm_w (y1 * y0)) + x3)) ∧ (mm_w ((mm_w (y1 * y0)) + x3)) < 25056) ∧ mm_Wp 229 (mm_blk 229 5) [vx0, vx1, vx2, zI x3, vx4] [zI (hi (45, 0, 0) (mm_w ((mm_w (y1 * y0)) + x3)))] (mm_z hi dh nx ns) Q) :=
  (wp_12).trans ((wp_3_3).trans ((wp_10).trans ((wp_70 (mm_q45 hy)).trans (mm_ae ((wp_56).trans (rfl))))))

